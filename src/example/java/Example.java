/** How SearchMill is used: texts, a segment, a query, a commit and a crash. */
public final class Example {
    public static void main(String[] args) {
        SearchMill mill = new SearchMill();
        addTexts(mill);
        System.out.println("segment " + mill.flush());

        int snapshot = mill.look(true);
        int query = dogsOrDaysButNotAtHome(mill);
        int held = mill.find(snapshot, query, 10);
        for (int place = 0; place < held; place++) {
            System.out.println("hit: key " + mill.hitAt(place) + ", rank " + mill.rankAt(place));
        }
        System.out.println("passages of key 5: " + mill.passages(snapshot, query, 5, 0)
            + ", the first from place " + mill.passageAt(snapshot, query, 5, 0, 0));

        System.out.println("segments named: " + mill.prepare() + ", commits: " + mill.finish());
        System.out.println("deleted: " + mill.delete(5) + ", documents: " + mill.documents(mill.look(true)));
        mill.crashAt(0);
        System.out.println("goes DOWN: " + (mill.prepare() == SearchMill.DOWN));
        System.out.println("segments: " + mill.open() + ", documents: " + mill.documents(mill.look(true)));
        try {
            mill.find(snapshot, query, 10);
        } catch (IndexOutOfBoundsException e) {
            System.out.println("the first snapshot is gone");
        }
    }

    private static void addTexts(SearchMill mill) {
        type(mill, "the");
        mill.stop();
        type(mill, "hound dog");
        mill.synonym();
        addText(mill, 5, "Running with the hounds", "a day outside");
        addText(mill, 7, "The dog and the cat", "a day at home");
        addText(mill, 9, "Cats", "Sleeping all day");
    }

    private static void addText(SearchMill mill, int key, String first, String second) {
        type(mill, first);
        mill.text(0);
        type(mill, second);
        mill.text(1);
        mill.columns(2, 17);
        mill.add(key);
    }

    /** TERM "dog" in field 0, or PHRASE "a day" in field 1, or PREFIX "sle" there; but not TERM "home" there. */
    private static int dogsOrDaysButNotAtHome(SearchMill mill) {
        type(mill, "dogs");
        mill.term(0);
        type(mill, "a day");
        mill.phrase(1, 0);
        type(mill, "sle");
        mill.prefix(1);
        mill.least(3, 1);
        type(mill, "home");
        mill.term(1);
        mill.but();
        return mill.query();
    }

    private static void type(SearchMill mill, String signs) {
        for (int i = 0; i < signs.length(); i++) {
            mill.type(signs.charAt(i));
        }
    }
}
