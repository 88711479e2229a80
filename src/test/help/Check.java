/** What the tests share: answers and exceptions compared with those that are due, and the pad typed. */
public final class Check {
    public static final Class<?> STATE = IllegalStateException.class;
    public static final Class<?> ARGUMENT = IllegalArgumentException.class;
    public static final Class<?> INDEX = IndexOutOfBoundsException.class;

    private static int wrong = 0;

    private Check() {
    }

    public interface Call {
        void make();
    }

    public static void due(String what, long got, long want) {
        if (got != want) {
            wrong++;
            System.out.println(what + " answered " + got + ", due is " + want);
        }
    }

    public static void due(String what, boolean got, boolean want) {
        due(what, got ? 1 : 0, want ? 1 : 0);
    }

    public static void fails(String what, Class<?> kind, Call call) {
        String got = "nothing";
        try {
            call.make();
        } catch (RuntimeException e) {
            if (e.getClass() == kind) {
                return;
            }
            got = e.getClass().getName();
        }
        wrong++;
        System.out.println(what + " threw " + got + ", due is " + kind.getName());
    }

    public static SearchMill typed(SearchMill mill, String signs) {
        for (int i = 0; i < signs.length(); i++) {
            mill.type(signs.charAt(i));
        }
        return mill;
    }

    /** Adds a document with a text in field 0. */
    public static int added(SearchMill mill, int key, String signs) {
        typed(mill, signs).text(0);
        return mill.add(key);
    }

    /** Adds a document with texts in both fields. */
    public static int added(SearchMill mill, int key, String first, String second) {
        typed(mill, first).text(0);
        typed(mill, second).text(1);
        return mill.add(key);
    }

    /** Makes a query of one TERM. */
    public static int termQuery(SearchMill mill, int field, String word) {
        typed(mill, word).term(field);
        return mill.query();
    }

    public static void end() {
        System.out.println(wrong == 0 ? "all answers are as due" : wrong + " answers are not as due");
        if (wrong != 0) {
            System.exit(1);
        }
    }
}
