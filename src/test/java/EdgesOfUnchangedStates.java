import java.util.function.Consumer;
import java.util.function.Supplier;

/**
 * "Questions change nothing." and "A call that throws an exception changes nothing.": asked of a machine that has
 * something of everything, and of one that is DOWN.
 */
public final class EdgesOfUnchangedStates {
    private static final Supplier<SearchMill> FULL = EdgesOfUnchangedStates::full;
    private static final Supplier<SearchMill> DOWN = () -> Check.crashed(full());

    public static void main(String[] args) {
        isFull();
        questionsToTheMachine();
        questionsToTheIndex();
        questionsToSnapshots();
        questionsWhileDown();
        refusedDocuments();
        refusedCommits();
        refusedQueries();
        refusedQuestions();
        refusedWhileDown();
        Check.end();
    }

    /** A commit, a prepared one, a merge, a buffer, a crash to come, snapshots, queries, parts, a pad, a draft, hits. */
    static SearchMill full() {
        SearchMill mill = new SearchMill();
        Check.typed(mill, "the").stop();
        Check.typed(mill, "dog hound").synonym();
        mill.weigh(0, 4);
        String[] texts = {"the dog", "cat", "cat cat", "ape", "cat dog"};
        for (int key = 0; key < texts.length; key++) {
            mill.columns(key, 100 * key);
            Check.added(mill, key, texts[key]);
            if (key == 1 || key > 2) {
                mill.flush();
            }
        }
        mill.delete(3);
        mill.prepare();
        mill.finish();
        Check.termQuery(mill, 0, "cat");
        Check.termQuery(mill, 0, "hound");
        mill.look(true);
        mill.look(false);
        mill.shut(1);
        mill.look(false);
        mill.add(5);
        mill.flush();
        mill.delete(0);
        mill.prepare();
        mill.merge();
        mill.step();
        mill.add(6);
        mill.add(7);
        mill.crashAt(9);
        mill.find(0, 0, 1);
        mill.find(0, 0, 2);
        Check.typed(mill, "cat").term(0);
        Check.typed(mill, "ape").term(0);
        Check.typed(mill, "draft").text(1);
        mill.columns(6, 66);
        return Check.typed(mill, "pad here now");
    }

    static void isFull() {
        SearchMill mill = full();
        Check.due("segments", mill.segments(), 4);
        Check.due("a merge, a commit and a prepared one", mill.files(), 9);
        Check.due("hits", mill.hitAt(1), 1);
        Check.due("taken from the cache", mill.cached(), 3);
        Check.due("a pad", mill.wipe(), 12);
        Check.due("parts", mill.scrap(), 2);
        Check.due("a merge is under way", mill.giveUp(), 1);
        Check.due("one is prepared", mill.finish(), 2);
    }

    static void asked(String what, Consumer<SearchMill> call) {
        Check.unchanged(what, FULL, call);
    }

    static void questionsToTheMachine() {
        asked("11: due", SearchMill::due);
        asked("20: isDown", SearchMill::isDown);
        asked("21: files", SearchMill::files);
        asked("22: writes", SearchMill::writes);
        asked("23: segments", SearchMill::segments);
        asked("48: hitAt", mill -> mill.hitAt(1));
        asked("49: rankAt", mill -> mill.rankAt(1));
        asked("50: skipped", SearchMill::skipped);
        asked("51: cached", SearchMill::cached);
    }

    static void questionsToTheIndex() {
        asked("24: segmentAt", mill -> mill.segmentAt(1));
        asked("25: live", mill -> mill.live(1));
        asked("26: keyAt", mill -> mill.keyAt(0, 1));
        asked("27: words", mill -> mill.words(1, 0));
        asked("28: shared", mill -> mill.shared(0, 0, 1));
        asked("29: wordBytes", mill -> mill.wordBytes(0, 0));
        asked("30: signAt", mill -> mill.signAt(0, 0, 1, 2));
        asked("31: bytes", mill -> mill.bytes(0, 0, 1));
        asked("32: byteAt", mill -> mill.byteAt(0, 0, 1, 0));
    }

    static void questionsToSnapshots() {
        for (int s = 0; s < 3; s += 2) {
            int snapshot = s;
            asked("35: documents", mill -> mill.documents(snapshot));
            asked("52: rankByScan", mill -> mill.rankByScan(snapshot, 1, 0));
            asked("53: matches", mill -> mill.matches(snapshot, 1));
            asked("54: matchesByScan", mill -> mill.matchesByScan(snapshot, 1));
            asked("55: facet", mill -> mill.facet(snapshot, 1, 0));
            asked("56: sortedAt", mill -> mill.sortedAt(snapshot, 1, true, 0));
            asked("57: passages", mill -> mill.passages(snapshot, 1, 0, 0));
            asked("58: passageAt", mill -> mill.passageAt(snapshot, 1, 0, 0, 0));
        }
    }

    static void questionsWhileDown() {
        Check.unchanged("20: DOWN", DOWN, SearchMill::isDown);
        Check.unchanged("22: DOWN", DOWN, SearchMill::writes);
        Check.unchanged("50: DOWN", DOWN, SearchMill::skipped);
        Check.unchanged("51: DOWN", DOWN, SearchMill::cached);
    }

    static void state(String what, Consumer<SearchMill> call) {
        Check.refused(what, Check.STATE, FULL, call);
    }

    static void argument(String what, Consumer<SearchMill> call) {
        Check.refused(what, Check.ARGUMENT, FULL, call);
    }

    static void index(String what, Consumer<SearchMill> call) {
        Check.refused(what, Check.INDEX, FULL, call);
    }

    static void refusedDocuments() {
        argument("2: type", mill -> mill.type((char) 127));
        state("4: stop", SearchMill::stop);
        state("5: synonym", SearchMill::synonym);
        index("6: text", mill -> mill.text(2));
        argument("7: columns", mill -> mill.columns(10, 0));
        index("8: add", mill -> mill.add(100));
        index("9: delete", mill -> mill.delete(-1));
    }

    static void refusedCommits() {
        state("12: merge", SearchMill::merge);
        state("15: prepare", SearchMill::prepare);
        argument("18: crashAt", mill -> mill.crashAt(1001));
        state("19: open", SearchMill::open);
        index("34: shut", mill -> mill.shut(1));
    }

    static void refusedQueries() {
        state("36: term", mill -> mill.term(0));
        index("36: term", mill -> mill.term(2));
        argument("37: phrase", mill -> mill.phrase(0, 21));
        argument("38: near", mill -> mill.near(0, 0, true));
        state("38: near", mill -> mill.near(0, 1, true));
        state("39: prefix", mill -> mill.prefix(1));
        state("40: wild", mill -> mill.wild(1));
        state("41: fuzzy", mill -> mill.fuzzy(1, 2));
        argument("41: fuzzy", mill -> mill.fuzzy(1, 3));
        argument("42: least", mill -> mill.least(2, 3));
        state("42: least", mill -> mill.least(3, 1));
        state("44: query", SearchMill::query);
        argument("46: weigh", mill -> mill.weigh(1, 0));
        index("46: weigh", mill -> mill.weigh(-1, 5));
    }

    static void refusedQuestions() {
        index("24: segmentAt", mill -> mill.segmentAt(4));
        index("26: keyAt", mill -> mill.keyAt(0, 2));
        index("28: shared", mill -> mill.shared(0, 0, 9));
        index("32: byteAt", mill -> mill.byteAt(0, 0, 0, 9));
        index("35: documents", mill -> mill.documents(1));
        index("47: find", mill -> mill.find(1, 1, 1));
        index("47: find", mill -> mill.find(0, 2, 1));
        argument("47: find", mill -> mill.find(0, 1, 21));
        index("48: hitAt", mill -> mill.hitAt(2));
        index("49: rankAt", mill -> mill.rankAt(2));
        index("52: rankByScan", mill -> mill.rankByScan(0, 1, 100));
        index("53: matches", mill -> mill.matches(0, 2));
        index("54: matchesByScan", mill -> mill.matchesByScan(1, 1));
        argument("55: facet", mill -> mill.facet(0, 1, 10));
        index("56: sortedAt", mill -> mill.sortedAt(0, 1, false, 2));
        index("57: passages", mill -> mill.passages(0, 1, 0, 2));
        index("58: passageAt", mill -> mill.passageAt(0, 1, 100, 0, 0));
    }

    static void down(String what, Consumer<SearchMill> call) {
        Check.refused(what + " while it is DOWN", Check.STATE, DOWN, call);
    }

    static void refusedWhileDown() {
        down("8: add", mill -> mill.add(0));
        down("9: delete", mill -> mill.delete(1));
        down("10: flush", SearchMill::flush);
        down("11: due", SearchMill::due);
        down("12: merge", SearchMill::merge);
        down("13: step", SearchMill::step);
        down("14: giveUp", SearchMill::giveUp);
        down("15: prepare", SearchMill::prepare);
        down("16: finish", SearchMill::finish);
        down("17: drop", SearchMill::drop);
        down("18: crashAt", mill -> mill.crashAt(3));
        down("21: files", SearchMill::files);
        down("23: segments", SearchMill::segments);
        down("33: look", mill -> mill.look(true));
        down("33: look", mill -> mill.look(false));
        Check.refused("24: segmentAt", Check.INDEX, DOWN, mill -> mill.segmentAt(0));
        Check.refused("34: shut", Check.INDEX, DOWN, mill -> mill.shut(0));
        Check.refused("47: find", Check.INDEX, DOWN, mill -> mill.find(0, 0, 1));
        Check.refused("48: hitAt", Check.INDEX, DOWN, mill -> mill.hitAt(0));
        Check.refused("53: matches", Check.INDEX, DOWN, mill -> mill.matches(0, 0));
    }
}
