import java.util.function.Consumer;
import java.util.function.Supplier;

/** What the tests share: answers and exceptions compared with those that are due, and the pad typed. */
public final class Check {
    public static final Class<?> STATE = IllegalStateException.class;
    public static final Class<?> ARGUMENT = IllegalArgumentException.class;
    public static final Class<?> INDEX = IndexOutOfBoundsException.class;

    private static int wrong = 0;

    private Check() {
    }

    public interface Call {
        void make();
    }

    private static void isWrong(String what) {
        wrong++;
        System.out.println(what);
    }

    public static void due(String what, long got, long want) {
        if (got != want) {
            isWrong(what + " answered " + got + ", due is " + want);
        }
    }

    public static void due(String what, boolean got, boolean want) {
        due(what, got ? 1 : 0, want ? 1 : 0);
    }

    public static void due(String what, String got, String want) {
        if (!got.equals(want)) {
            isWrong(what + " answered " + got + ", due is " + want);
        }
    }

    /** A call that has to throw just this, by a throw statement of the class: the Java machine itself never may. */
    public static void fails(String what, Class<?> kind, Call call) {
        String got = thrownBy(call);
        if (!got.equals(kind.getName())) {
            isWrong(what + " threw " + got + ", due is " + kind.getName());
        }
    }

    private static String thrownBy(Call call) {
        try {
            call.make();
        } catch (RuntimeException e) {
            StackTraceElement[] trace = e.getStackTrace();
            boolean isOwn = trace.length > 0 && trace[0].getClassName().startsWith("SearchMill");
            return e.getClass().getName() + (isOwn ? "" : " by the Java machine");
        }
        return "nothing";
    }

    /** A call that has to throw just this, and leaves all as it was: another object, without it, tells the same. */
    public static void refused(String what, Class<?> kind, Supplier<SearchMill> made, Consumer<SearchMill> call) {
        SearchMill one = made.get();
        fails(what, kind, () -> call.accept(one));
        unchanged(what, made, mill -> thrownBy(() -> call.accept(mill)));
    }

    /** A call after which all is as it was. */
    public static void unchanged(String what, Supplier<SearchMill> made, Consumer<SearchMill> call) {
        for (int way = 0; way < Probe.WAYS; way++) {
            SearchMill asked = made.get();
            call.accept(asked);
            String got = Probe.tell(asked, way);
            String want = Probe.tell(made.get(), way);
            if (!got.equals(want)) {
                isWrong(what + " changed something, way " + way + "\n  told:   " + got + "\n  due is: " + want);
            }
        }
    }

    public static SearchMill typed(SearchMill mill, String signs) {
        for (int i = 0; i < signs.length(); i++) {
            mill.type(signs.charAt(i));
        }
        return mill;
    }

    /** Adds a document with a text in field 0. */
    public static int added(SearchMill mill, int key, String signs) {
        typed(mill, signs).text(0);
        return mill.add(key);
    }

    /** Adds a document with texts in both fields. */
    public static int added(SearchMill mill, int key, String first, String second) {
        typed(mill, first).text(0);
        typed(mill, second).text(1);
        return mill.add(key);
    }

    /** A machine with a segment of a document for each text, with the keys 0, 1, and so on, and a fresh snapshot 0. */
    public static SearchMill with(String... texts) {
        SearchMill mill = new SearchMill();
        for (int i = 0; i < texts.length; i++) {
            added(mill, i, texts[i]);
        }
        mill.flush();
        mill.look(true);
        return mill;
    }

    /** A machine with segments of so many documents without texts, with the keys 0, 1, and so on. */
    public static SearchMill withSegments(int... sizes) {
        SearchMill mill = new SearchMill();
        int key = 0;
        for (int size : sizes) {
            for (int i = 0; i < size; i++) {
                mill.add(key);
                key++;
            }
            mill.flush();
        }
        return mill;
    }

    /** A machine with so many segments of one document. */
    public static SearchMill made(int segments) {
        SearchMill mill = new SearchMill();
        for (int i = 0; i < segments; i++) {
            mill.add(i % 100);
            mill.flush();
        }
        return mill;
    }

    /** Does all steps of the merge that is due; answers how many documents were copied. */
    public static int merged(SearchMill mill) {
        int wanted = mill.merge();
        for (int i = 0; i < wanted + 1; i++) {
            mill.step();
        }
        return wanted;
    }

    /** Makes a query of one TERM. */
    public static int termQuery(SearchMill mill, int field, String word) {
        typed(mill, word).term(field);
        return mill.query();
    }

    /** A word of a segment of the index. */
    public static String wordAt(SearchMill mill, int place, int field, int word) {
        StringBuilder signs = new StringBuilder();
        for (int i = 0; i < 40 && mill.signAt(place, field, word, i) != ' '; i++) {
            signs.append(mill.signAt(place, field, word, i));
        }
        return signs.toString();
    }

    /** The words of the first segment in field 0, with blanks between them. */
    public static String words(SearchMill mill) {
        StringBuilder all = new StringBuilder();
        for (int i = 0; i < mill.words(0, 0); i++) {
            all.append(i == 0 ? "" : " ").append(wordAt(mill, 0, 0, i));
        }
        return all.toString();
    }

    /** The postings of a word of field 0 of the first segment have to be these bits, filled up with 0. */
    public static void bits(String what, SearchMill mill, int word, String bits) {
        StringBuilder due = new StringBuilder(bits.replace(" ", ""));
        while (due.length() % 8 != 0) {
            due.append('0');
        }
        int count = mill.bytes(0, 0, word);
        due(what + ", bytes", count, due.length() / 8);
        StringBuilder got = new StringBuilder();
        for (int i = 0; i < count; i++) {
            int one = mill.byteAt(0, 0, word, i);
            due(what + ", a byte's range", one >= -128 && one <= 127, true);
            got.append(Integer.toBinaryString((one & 255) | 256).substring(1));
        }
        due(what, got.toString(), due.toString());
        fails(what + ", no byte behind the last one", INDEX, () -> mill.byteAt(0, 0, word, count));
    }

    /** Which of the keys 0 to 11 match what is the only part, in the snapshot 0, as bits; asked in all ways. */
    public static int keys(SearchMill mill) {
        int query = mill.query();
        int keys = 0;
        for (int key = 0; key < 12; key++) {
            keys |= mill.rankByScan(0, query, key) == SearchMill.NONE ? 0 : 1 << key;
        }
        due("53: matches", mill.matches(0, query), Integer.bitCount(keys));
        due("54: matchesByScan", mill.matchesByScan(0, query), Integer.bitCount(keys));
        int found = 0;
        int held = mill.find(0, query, 20);
        for (int i = 0; i < held; i++) {
            found |= 1 << mill.hitAt(i);
        }
        due("47: find", found, keys);
        return keys;
    }

    /** The keys of what was found last, each with its rank. */
    public static String hits(SearchMill mill, int snapshot, int query, int most) {
        StringBuilder all = new StringBuilder();
        int held = mill.find(snapshot, query, most);
        for (int i = 0; i < held; i++) {
            all.append(i == 0 ? "" : " ").append(mill.hitAt(i)).append(':').append(mill.rankAt(i));
        }
        return all.toString();
    }

    /** Where the passages of the document 0 begin, in the snapshot 0 and field 0. */
    public static String passages(SearchMill mill, int query) {
        StringBuilder all = new StringBuilder();
        int count = mill.passages(0, query, 0, 0);
        for (int i = 0; i < count; i++) {
            all.append(i == 0 ? "" : " ").append(mill.passageAt(0, query, 0, 0, i));
        }
        due("58: none behind the last one", mill.passageAt(0, query, 0, 0, count), SearchMill.NONE);
        return all.toString();
    }

    /** Makes the machine crash at its next write, by a commit. */
    public static SearchMill crashed(SearchMill mill) {
        mill.crashAt(0);
        int first = -3;
        try {
            first = mill.prepare();
        } catch (IllegalStateException e) {
            first = mill.finish();
        }
        due("a crash", first, SearchMill.DOWN);
        return mill;
    }

    public static void end() {
        System.out.println(wrong == 0 ? "all answers are as due" : wrong + " answers are not as due");
        if (wrong != 0) {
            System.exit(1);
        }
    }
}
