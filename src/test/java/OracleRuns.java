/** Runs of drawn calls, each asked of the program and of the oracle. */
public final class OracleRuns {
    private static final int RUNS = 400;
    /** More calls than an object is promised for, but those that type are not counted. */
    private static final int CALLS = 1200;
    private static final int SHOWN = 20;
    private static final int LETTERS = 14;
    private static final String[] WORDS = {
        "cat", "dog", "b", "cats", "dogged", "run", "running", "runs", "a", "the", "king", "aking", "bed", "abed",
        "gas", "is", "glass", "cared", "care", "caring", "red", "reds", "x1", "abcdefghijklmnop", "abcdefghijklxyz",
        "abcdefghijkl", "sing", "singing", "bus"};

    private interface Call {
        long make();
    }

    private static int shown = 0;

    private final SearchMill mill = new SearchMill();
    private final Oracle oracle = new Oracle();
    private final int run;
    private final StringBuilder trace = new StringBuilder();
    private long seed;
    private int calls;
    private boolean isWrong;
    private boolean isQuiet;

    private OracleRuns(int run) {
        this.run = run;
        this.seed = run * 7919L + 17;
    }

    private int draw(int bound) {
        seed = seed * 6364136223846793005L + 1442695040888963407L;
        return (int) ((seed >>> 33) % bound);
    }

    /** An answer, or a number for the exception, which has to come from a throw statement. */
    private static long outcome(Call call) {
        try {
            return call.make();
        } catch (RuntimeException e) {
            StackTraceElement[] trace = e.getStackTrace();
            if (trace.length > 0 && !trace[0].getClassName().matches("(SearchMill|Oracle).*")) {
                System.out.println("thrown by the machine: " + e);
                return 1000000;
            }
            return e.getClass() == IllegalStateException.class ? 1000001
                : e.getClass() == IndexOutOfBoundsException.class ? 1000002
                : e.getClass() == IllegalArgumentException.class ? 1000003 : 1000009;
        }
    }

    private long ask(String what, Call one, Call other) {
        calls += what.startsWith("type(") ? 0 : 1;
        long got = outcome(one);
        long want = outcome(other);
        if (!what.startsWith("type(")) {
            trace.append("  ").append(what).append(" = ").append(got).append('\n');
        }
        if (got != want) {
            isWrong = true;
            if (shown < SHOWN) {
                shown++;
                System.out.println("run " + run + " call " + calls + ": " + what + " answered " + got
                    + ", due is " + want);
            }
        }
        return want;
    }

    private void type(String signs) {
        for (int i = 0; i < signs.length(); i++) {
            char sign = signs.charAt(i);
            ask("type('" + sign + "')", () -> mill.type(sign), () -> oracle.type(sign));
        }
        trace.append("  typed ").append(signs).append('\n');
    }

    private String someWord() {
        int kind = draw(5);
        if (kind == 0) {
            return "" + (char) ('a' + draw(LETTERS));
        }
        return WORDS[draw(kind < 3 ? 3 : kind == 3 ? 8 : WORDS.length)];
    }

    /** A text of many places, on which the same word is seldom. */
    private String letters() {
        StringBuilder signs = new StringBuilder();
        for (int i = 0; i < 20; i++) {
            signs.append((char) ('a' + draw(LETTERS))).append(' ');
        }
        return signs.toString();
    }

    private String words(int most) {
        StringBuilder signs = new StringBuilder();
        int count = draw(most) + 1;
        for (int i = 0; i < count; i++) {
            signs.append(i == 0 ? "" : draw(5) == 0 ? "--" : " ").append(someWord());
        }
        return signs.substring(0, Math.min(signs.length(), 40));
    }

    /** Mostly a small number, at times one at or beyond the edge of a range. */
    private int near(int small, int edge) {
        int kind = draw(60);
        return kind == 0 ? -1 : kind == 1 ? edge : kind == 2 ? edge + 1 : draw(small);
    }

    private int field() {
        return draw(30) == 0 ? draw(4) - 1 : draw(2);
    }

    private void rules() {
        int kind = draw(4);
        for (int i = 0; i < kind; i++) {
            type(draw(2) == 0 ? "b" : words(2));
            ask("stop", () -> mill.stop(), () -> oracle.stop());
            ask("wipe", () -> mill.wipe(), () -> oracle.wipe());
            type(words(2));
            ask("synonym", () -> mill.synonym(), () -> oracle.synonym());
            ask("wipe", () -> mill.wipe(), () -> oracle.wipe());
        }
    }

    private void document() {
        int fields = draw(3);
        for (int i = 0; i < fields; i++) {
            type(draw(4) == 0 ? letters() : words(draw(2) == 0 ? 4 : 15));
            int field = field();
            ask("text(" + field + ")", () -> mill.text(field), () -> oracle.text(field));
            ask("wipe", () -> mill.wipe(), () -> oracle.wipe());
        }
        if (draw(3) == 0) {
            int category = near(4, 9);
            int number = near(5, 999);
            ask("columns(" + category + ", " + number + ")", () -> {
                mill.columns(category, number);
                return 0;
            }, () -> {
                oracle.columns(category, number);
                return 0;
            });
        }
        add();
    }

    /** Some documents and a flush, and at times a merge to its end. */
    private void batch() {
        int count = 1 + draw(5);
        for (int i = 0; i < count; i++) {
            document();
        }
        ask("flush", () -> mill.flush(), () -> oracle.flush());
        if (draw(2) == 0) {
            ask("merge", () -> mill.merge(), () -> oracle.merge());
            for (int i = 0; i < 40 && oracle.sources != null && draw(30) != 0; i++) {
                if (draw(12) == 0) {
                    change();
                }
                ask("step", () -> mill.step(), () -> oracle.step());
            }
            lookAtState();
        }
        ask("look(true)", () -> mill.look(true), () -> oracle.look(true));
    }

    private void add() {
        int key = near(40, 99);
        ask("add(" + key + ")", () -> mill.add(key), () -> oracle.add(key));
    }

    private void leaf() {
        int kind = draw(7);
        int field = field();
        boolean isOrdered = draw(2) == 0;
        if (kind < 2) {
            type(draw(9) == 0 ? words(2) : someWord());
            ask("term(" + field + ")", () -> mill.term(field), () -> oracle.term(field));
        } else if (kind == 2) {
            int slop = near(4, 20);
            type(draw(3) == 0 ? someWord() + " b " + someWord() : words(draw(6) == 0 ? 9 : 3));
            ask("phrase(" + field + ", " + slop + ")", () -> mill.phrase(field, slop), () -> oracle.phrase(field, slop));
        } else if (kind == 3) {
            int distance = near(4, 20);
            type(someWord() + " " + someWord());
            ask("near(" + field + ", " + distance + ", " + isOrdered + ")",
                () -> mill.near(field, distance, isOrdered), () -> oracle.near(field, distance, isOrdered));
        } else if (kind == 4) {
            String word = someWord();
            type(word.substring(0, 1 + draw(word.length())) + (draw(9) == 0 ? " z" : ""));
            ask("prefix(" + field + ")", () -> mill.prefix(field), () -> oracle.prefix(field));
        } else if (kind == 5) {
            type(pattern());
            ask("wild(" + field + ")", () -> mill.wild(field), () -> oracle.wild(field));
        } else {
            int edits = near(3, 2);
            type(someWord() + (draw(9) == 0 ? " z" : ""));
            ask("fuzzy(" + field + ", " + edits + ")", () -> mill.fuzzy(field, edits), () -> oracle.fuzzy(field, edits));
        }
        ask("wipe", () -> mill.wipe(), () -> oracle.wipe());
    }

    private String pattern() {
        String word = someWord();
        StringBuilder pattern = new StringBuilder();
        for (int i = 0; i < word.length() && i < 12; i++) {
            int kind = draw(6);
            pattern.append(kind == 0 ? "?" : kind == 1 ? "*" : kind == 2 && draw(3) == 0 ? "" : word.substring(i, i + 1));
        }
        return pattern + (draw(9) == 0 ? " *" : draw(3) == 0 ? "*" : "");
    }

    private void group() {
        if (draw(4) == 0) {
            ask("but", () -> mill.but(), () -> oracle.but());
        } else {
            int parts = draw(9) == 0 ? near(4, 8) : 2 + draw(2);
            int least = near(parts < 1 ? 1 : parts, 8) + 1;
            ask("least(" + parts + ", " + least + ")", () -> mill.least(parts, least), () -> oracle.least(parts, least));
        }
    }

    /** ANY of some letters in one field, of which passages are made. */
    private void wideQuery() {
        int field = draw(2);
        int leaves = 3 + draw(6);
        ask("scrap", () -> mill.scrap(), () -> oracle.scrap());
        for (int i = 0; i < leaves; i++) {
            type("" + (char) ('a' + draw(LETTERS)));
            ask("term(" + field + ")", () -> mill.term(field), () -> oracle.term(field));
        }
        ask("least(" + leaves + ", 1)", () -> mill.least(leaves, 1), () -> oracle.least(leaves, 1));
        ask("query", () -> mill.query(), () -> oracle.query());
    }

    private void query() {
        if (draw(4) == 0) {
            wideQuery();
            return;
        }
        int leaves = 1 + draw(4);
        for (int i = 0; i < leaves; i++) {
            leaf();
        }
        for (int i = 0; i < leaves; i++) {
            group();
        }
        ask("query", () -> mill.query(), () -> oracle.query());
        if (draw(6) == 0) {
            ask("scrap", () -> mill.scrap(), () -> oracle.scrap());
        }
    }

    private void change() {
        int kind = draw(11);
        if (kind < 3) {
            ask("flush", () -> mill.flush(), () -> oracle.flush());
        } else if (kind == 3) {
            int key = near(40, 99);
            ask("delete(" + key + ")", () -> mill.delete(key) ? 1 : 0, () -> oracle.delete(key) ? 1 : 0);
        } else if (kind == 4) {
            ask("merge", () -> mill.merge(), () -> oracle.merge());
        } else if (kind < 8) {
            ask("step", () -> mill.step(), () -> oracle.step());
        } else if (kind == 8) {
            ask("prepare", () -> mill.prepare(), () -> oracle.prepare());
        } else if (kind == 9) {
            ask("finish", () -> mill.finish(), () -> oracle.finish());
        } else {
            seldom();
        }
    }

    private void seldom() {
        int kind = draw(6);
        if (kind == 0) {
            ask("giveUp", () -> mill.giveUp(), () -> oracle.giveUp());
        } else if (kind == 1) {
            ask("drop", () -> {
                mill.drop();
                return 0;
            }, () -> {
                oracle.drop();
                return 0;
            });
        } else if (kind == 2 && !isQuiet) {
            int writes = near(12, 1000);
            ask("crashAt(" + writes + ")", () -> {
                mill.crashAt(writes);
                return 0;
            }, () -> {
                oracle.crashAt(writes);
                return 0;
            });
        } else {
            ask("open", () -> mill.open(), () -> oracle.open());
            int field = field();
            int weight = near(9, 9);
            ask("weigh(" + field + ", " + weight + ")", () -> mill.weigh(field, weight), () -> oracle.weigh(field, weight));
        }
    }

    private void lookAtState() {
        ask("isDown", () -> mill.isDown() ? 1 : 0, () -> oracle.isDown() ? 1 : 0);
        ask("files", () -> mill.files(), () -> oracle.files());
        ask("writes", () -> mill.writes(), () -> oracle.writes());
        ask("due", () -> mill.due(), () -> oracle.due());
        ask("segments", () -> mill.segments(), () -> oracle.segments());
        int place = near(6, 6);
        int document = near(8, 12);
        ask("segmentAt(" + place + ")", () -> mill.segmentAt(place), () -> oracle.segmentAt(place));
        ask("live(" + place + ")", () -> mill.live(place), () -> oracle.live(place));
        ask("keyAt(" + place + ", " + document + ")", () -> mill.keyAt(place, document), () -> oracle.keyAt(place, document));
    }

    private void lookAtWords() {
        int place = oracle.index.isEmpty() ? 0 : near(oracle.index.size(), 9);
        int field = field();
        int word = near(12, 20);
        int at = near(5, 12);
        ask("words", () -> mill.words(place, field), () -> oracle.words(place, field));
        ask("shared", () -> mill.shared(place, field, word), () -> oracle.shared(place, field, word));
        ask("wordBytes", () -> mill.wordBytes(place, field), () -> oracle.wordBytes(place, field));
        ask("signAt", () -> mill.signAt(place, field, word, at), () -> oracle.signAt(place, field, word, at));
        ask("bytes", () -> mill.bytes(place, field, word), () -> oracle.bytes(place, field, word));
        ask("byteAt", () -> mill.byteAt(place, field, word, at), () -> oracle.byteAt(place, field, word, at));
    }

    private void snapshot() {
        boolean isFresh = draw(3) != 0;
        if (draw(2) == 0) {
            int old = near(12, 4);
            ask("shut(" + old + ")", () -> mill.shut(old), () -> oracle.shut(old));
        }
        ask("look(" + isFresh + ")", () -> mill.look(isFresh), () -> oracle.look(isFresh));
    }

    private int someSnapshot() {
        int[] open = oracle.open.keySet().stream().mapToInt(Integer::intValue).toArray();
        return open.length == 0 || draw(20) == 0 ? near(5, 9) : open[draw(open.length)];
    }

    private int someQuery() {
        return oracle.queries.isEmpty() || draw(20) == 0 ? near(3, 39) : draw(oracle.queries.size());
    }

    private void find() {
        int snapshot = someSnapshot();
        int query = someQuery();
        int most = near(3, 20) + (draw(9) == 0 ? 0 : 1);
        long held = ask("find(" + snapshot + ", " + query + ", " + most + ")",
            () -> mill.find(snapshot, query, most), () -> oracle.find(snapshot, query, most));
        ask("skipped", () -> mill.skipped(), () -> oracle.skipped());
        ask("cached", () -> mill.cached(), () -> oracle.cached());
        for (int i = -1; i <= held && i < 4; i++) {
            int place = i;
            ask("hitAt(" + place + ")", () -> mill.hitAt(place), () -> oracle.hitAt(place));
            ask("rankAt(" + place + ")", () -> mill.rankAt(place), () -> oracle.rankAt(place));
        }
        if (held > 0 && held <= 20) {
            questionFor(snapshot, query, oracle.hitAt(draw((int) held)));
        }
    }

    private void question() {
        int s = someSnapshot();
        int q = someQuery();
        int key = near(40, 99);
        if (oracle.open.containsKey(s) && oracle.open.get(s).size() > 0 && draw(4) != 0) {
            key = oracle.open.get(s).liveDocs().get(draw(oracle.open.get(s).size())).key;
        }
        questionFor(s, q, key);
    }

    private void questionFor(int s, int q, int key) {
        int category = near(4, 9);
        int place = near(4, 12);
        boolean isFalling = draw(2) == 0;
        int field = field();
        int at = near(3, 3);
        String of = "(" + s + ", " + q + ", ";
        ask("documents(" + s + ")", () -> mill.documents(s), () -> oracle.documents(s));
        ask("rankByScan" + of + key + ")", () -> mill.rankByScan(s, q, key), () -> oracle.rankByScan(s, q, key));
        ask("matches" + of + ")", () -> mill.matches(s, q), () -> oracle.matches(s, q));
        ask("matchesByScan" + of + ")", () -> mill.matchesByScan(s, q), () -> oracle.matches(s, q));
        ask("facet" + of + category + ")", () -> mill.facet(s, q, category), () -> oracle.facet(s, q, category));
        ask("sortedAt" + of + isFalling + ", " + place + ")",
            () -> mill.sortedAt(s, q, isFalling, place), () -> oracle.sortedAt(s, q, isFalling, place));
        ask("passages" + of + key + ", " + field + ")",
            () -> mill.passages(s, q, key, field), () -> oracle.passages(s, q, key, field));
        ask("passageAt" + of + key + ", " + field + ", " + at + ")",
            () -> mill.passageAt(s, q, key, field, at), () -> oracle.passageAt(s, q, key, field, at));
    }

    private void turn() {
        int kind = draw(24);
        if (kind < 1) {
            batch();
        } else if (kind < 4) {
            document();
        } else if (kind < 6) {
            add();
        } else if (kind < 11) {
            change();
        } else if (kind < 12) {
            lookAtState();
            lookAtWords();
        } else if (kind < 14) {
            snapshot();
        } else if (kind < 15) {
            query();
        } else if (kind < 19) {
            find();
        } else {
            question();
        }
    }

    private boolean isRight() {
        isQuiet = run % 2 == 0;
        rules();
        if (run % 3 != 0) {
            query();
        }
        while (calls < CALLS && !isWrong) {
            turn();
            if (oracle.down && draw(4) == 0) {
                ask("open", () -> mill.open(), () -> oracle.open());
            }
        }
        if (isWrong && shown < 3) {
            System.out.println(trace);
        }
        return !isWrong;
    }

    public static void main(String[] args) {
        int runs = args.length > 0 ? Integer.parseInt(args[0]) : RUNS;
        int wrong = 0;
        for (int run = 0; run < runs; run++) {
            wrong += new OracleRuns(run).isRight() ? 0 : 1;
        }
        System.out.println(wrong == 0 ? runs + " runs are as due" : wrong + " runs are not as due");
        if (wrong != 0) {
            System.exit(1);
        }
    }
}
