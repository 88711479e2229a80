/** The greatest and the least arguments: each call throws what the document names, and changes nothing. */
public final class ExtremeArguments {
    private static final int[] FAR = {Integer.MIN_VALUE, Integer.MIN_VALUE + 1, -2, Integer.MAX_VALUE - 1, Integer.MAX_VALUE};

    public static void main(String[] args) {
        SearchMill mill = new SearchMill();
        Check.added(mill, 1, "cat dog", "cat");
        mill.flush();
        mill.look(true);
        Check.termQuery(mill, 0, "cat");
        mill.find(0, 0, 5);
        Check.typed(mill, "a b");
        for (int far : FAR) {
            String at = " with " + far;
            index(mill, far, at);
            asked(mill, far, at);
            leaves(mill, far, at);
        }
        Check.due("the pad stays", mill.wipe(), 3);
        Check.due("no parts", mill.scrap(), 0);
        Check.due("the hit stays", mill.hitAt(0), 1);
        Check.due("weights stay", mill.weigh(0, 3), 3);
        Check.due("files stay", mill.files(), 1);
        Check.end();
    }

    static void index(SearchMill mill, int far, String at) {
        Check.fails("text" + at, Check.INDEX, () -> mill.text(far));
        Check.fails("columns, category" + at, Check.ARGUMENT, () -> mill.columns(far, 0));
        Check.fails("columns, number" + at, Check.ARGUMENT, () -> mill.columns(0, far));
        Check.fails("add" + at, Check.INDEX, () -> mill.add(far));
        Check.fails("delete" + at, Check.INDEX, () -> mill.delete(far));
        Check.fails("crashAt" + at, Check.ARGUMENT, () -> mill.crashAt(far));
        Check.fails("segmentAt" + at, Check.INDEX, () -> mill.segmentAt(far));
        Check.fails("live" + at, Check.INDEX, () -> mill.live(far));
        Check.fails("keyAt, place" + at, Check.INDEX, () -> mill.keyAt(far, 0));
        Check.fails("keyAt, document" + at, Check.INDEX, () -> mill.keyAt(0, far));
        Check.fails("words, place" + at, Check.INDEX, () -> mill.words(far, 0));
        Check.fails("words, field" + at, Check.INDEX, () -> mill.words(0, far));
        Check.fails("shared, word" + at, Check.INDEX, () -> mill.shared(0, 0, far));
        Check.fails("shared, field" + at, Check.INDEX, () -> mill.shared(0, far, 0));
        Check.fails("wordBytes, field" + at, Check.INDEX, () -> mill.wordBytes(0, far));
        Check.fails("signAt, word" + at, Check.INDEX, () -> mill.signAt(0, 0, far, 0));
        Check.due("signAt, sign" + at, mill.signAt(0, 0, 0, far), ' ');
        Check.fails("bytes, word" + at, Check.INDEX, () -> mill.bytes(0, 0, far));
        Check.fails("byteAt, word" + at, Check.INDEX, () -> mill.byteAt(0, 0, far, 0));
        Check.fails("byteAt, index" + at, Check.INDEX, () -> mill.byteAt(0, 0, 0, far));
    }

    static void asked(SearchMill mill, int far, String at) {
        Check.fails("shut" + at, Check.INDEX, () -> mill.shut(far));
        Check.fails("documents" + at, Check.INDEX, () -> mill.documents(far));
        Check.fails("find, snapshot" + at, Check.INDEX, () -> mill.find(far, 0, far));
        Check.fails("find, query" + at, Check.INDEX, () -> mill.find(0, far, far));
        Check.fails("find, most" + at, Check.ARGUMENT, () -> mill.find(0, 0, far));
        Check.fails("hitAt" + at, Check.INDEX, () -> mill.hitAt(far));
        Check.fails("rankAt" + at, Check.INDEX, () -> mill.rankAt(far));
        Check.fails("rankByScan, query" + at, Check.INDEX, () -> mill.rankByScan(0, far, 1));
        Check.fails("rankByScan, key" + at, Check.INDEX, () -> mill.rankByScan(0, 0, far));
        Check.fails("matches" + at, Check.INDEX, () -> mill.matches(far, 0));
        Check.fails("matchesByScan" + at, Check.INDEX, () -> mill.matchesByScan(0, far));
        Check.fails("facet, category" + at, Check.ARGUMENT, () -> mill.facet(0, 0, far));
        Check.fails("facet, query" + at, Check.INDEX, () -> mill.facet(0, far, far));
        Check.fails("sortedAt, place" + at, Check.INDEX, () -> mill.sortedAt(0, 0, true, far));
        Check.fails("sortedAt, query" + at, Check.INDEX, () -> mill.sortedAt(0, far, false, 0));
        Check.fails("passages, key" + at, Check.INDEX, () -> mill.passages(0, 0, far, 0));
        Check.fails("passages, field" + at, Check.INDEX, () -> mill.passages(0, 0, 1, far));
        Check.fails("passageAt, field" + at, Check.INDEX, () -> mill.passageAt(0, 0, 1, far, 0));
        Check.due("passageAt, index" + at, mill.passageAt(0, 0, 1, 0, far), SearchMill.NONE);
    }

    static void leaves(SearchMill mill, int far, String at) {
        Check.fails("term" + at, Check.INDEX, () -> mill.term(far));
        Check.fails("phrase, field" + at, Check.INDEX, () -> mill.phrase(far, far));
        Check.fails("phrase, slop" + at, Check.ARGUMENT, () -> mill.phrase(0, far));
        Check.fails("near, field" + at, Check.INDEX, () -> mill.near(far, far, true));
        Check.fails("near, distance" + at, Check.ARGUMENT, () -> mill.near(0, far, false));
        Check.fails("prefix" + at, Check.INDEX, () -> mill.prefix(far));
        Check.fails("wild" + at, Check.INDEX, () -> mill.wild(far));
        Check.fails("fuzzy, field" + at, Check.INDEX, () -> mill.fuzzy(far, far));
        Check.fails("fuzzy, edits" + at, Check.ARGUMENT, () -> mill.fuzzy(0, far));
        Check.fails("least, parts" + at, Check.ARGUMENT, () -> mill.least(far, 1));
        Check.fails("least, least" + at, Check.ARGUMENT, () -> mill.least(2, far));
        Check.fails("weigh, field" + at, Check.INDEX, () -> mill.weigh(far, far));
        Check.fails("weigh, weight" + at, Check.ARGUMENT, () -> mill.weigh(0, far));
    }
}
