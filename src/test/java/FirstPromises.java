/** Promises 1 to 7: a new object, the pad, stop words, synonyms, the draft. */
public final class FirstPromises {
    public static void main(String[] args) {
        newObject();
        type();
        wipe();
        stop();
        synonym();
        text();
        columns();
        Check.end();
    }

    static void newObject() {
        Check.due("NONE", SearchMill.NONE, -1);
        Check.due("DOWN", SearchMill.DOWN, -2);
        SearchMill mill = new SearchMill();
        Check.due("1: wipe", mill.wipe(), 0);
        Check.due("1: segments", mill.segments(), 0);
        Check.due("1: files", mill.files(), 0);
        Check.due("1: writes", mill.writes(), 0);
        Check.due("1: isDown", mill.isDown() ? 1 : 0, 0);
        Check.due("1: due", mill.due(), -1);
        Check.due("1: flush", mill.flush(), -1);
        Check.due("1: scrap", mill.scrap(), 0);
        Check.due("1: skipped", mill.skipped(), 0);
        Check.due("1: cached", mill.cached(), 0);
        Check.fails("1: no hit", Check.INDEX, () -> mill.hitAt(0));
        Check.fails("1: nothing prepared", Check.STATE, () -> mill.finish());
        Check.fails("1: no merge", Check.STATE, () -> mill.step());
        Check.fails("1: not DOWN", Check.STATE, () -> mill.open());
        Check.fails("1: no snapshot", Check.INDEX, () -> mill.documents(0));
        Check.due("1: look at no commit", mill.look(false), 0);
        Check.due("1: an empty snapshot", mill.documents(0), 0);
        Check.due("1: weight 0", mill.weigh(0, 3), 3);
        Check.due("1: weight 1", mill.weigh(1, 1), 1);
    }

    static void type() {
        SearchMill mill = new SearchMill();
        Check.due("2: first", mill.type(' '), 1);
        Check.due("2: last of the range", mill.type('~'), 2);
        Check.fails("2: below the range", Check.ARGUMENT, () -> mill.type((char) 31));
        Check.fails("2: above the range", Check.ARGUMENT, () -> mill.type((char) 127));
        Check.fails("2: far above the range", Check.ARGUMENT, () -> mill.type((char) 65535));
        for (int i = 3; i <= 40; i++) {
            Check.due("2: sign " + i, mill.type('a'), i);
        }
        Check.fails("2: full", Check.STATE, () -> mill.type('a'));
        Check.fails("2: full and out of range", Check.ARGUMENT, () -> mill.type((char) 0));
        Check.due("2: nothing was changed", mill.wipe(), 40);
    }

    static void wipe() {
        SearchMill mill = Check.typed(new SearchMill(), "abc");
        Check.due("3: wipe", mill.wipe(), 3);
        Check.due("3: wiped", mill.wipe(), 0);
        Check.due("3: typed anew", mill.type('x'), 1);
        Check.due("3: text", mill.text(0), 1);
        Check.due("3: the text took the pad", mill.wipe(), 0);
    }

    static void stop() {
        SearchMill mill = new SearchMill();
        Check.fails("4: no word", Check.STATE, () -> mill.stop());
        Check.typed(mill, "two words");
        Check.fails("4: two words", Check.STATE, () -> mill.stop());
        Check.due("4: the pad stays", mill.wipe(), 9);
        Check.due("4: one", Check.typed(mill, " the,").stop(), 1);
        Check.due("4: the pad is empty", mill.wipe(), 0);
        Check.due("4: told again", Check.typed(mill, "THE").stop(), 1);
        Check.due("4: the same stem", Check.typed(mill, "cats").stop(), 2);
        Check.due("4: the same stem again", Check.typed(mill, "cat").stop(), 2);
        for (int i = 3; i <= 10; i++) {
            Check.due("4: stop word " + i, Check.typed(mill, "w" + i).stop(), i);
        }
        Check.typed(mill, "more");
        Check.fails("4: an eleventh", Check.STATE, () -> mill.stop());
        mill.wipe();
        Check.typed(mill, "the");
        Check.fails("4: there are 10", Check.STATE, () -> mill.stop());
        mill.wipe();
        Check.due("4: no tokens of stop words", Check.typed(mill, "The cat and THE dog, w10").text(0), 2);
        SearchMill other = new SearchMill();
        Check.due("4: a text ahead of its stop word", Check.typed(other, "a b a").text(1), 3);
        Check.due("4: the stop word", Check.typed(other, "a").stop(), 1);
        other.add(5);
        Check.typed(other, "b");
        Check.fails("4: a document was added", Check.STATE, () -> other.stop());
        other.wipe();
        other.flush();
        Check.due("4: the stop word is left out", other.words(0, 1), 1);
        Check.due("4: the place is kept", other.byteAt(0, 1, 0, 0), 0x12);
    }

    static void synonym() {
        SearchMill mill = new SearchMill();
        Check.typed(mill, "one");
        Check.fails("5: one word", Check.STATE, () -> mill.synonym());
        Check.typed(mill, " two three");
        Check.fails("5: three words", Check.STATE, () -> mill.synonym());
        mill.wipe();
        Check.due("5: a synonym", Check.typed(mill, "Dogs hounds").synonym(), 1);
        Check.due("5: the pad is empty", mill.wipe(), 0);
        Check.due("5: told again", Check.typed(mill, "dog hound").synonym(), 2);
        Check.due("5: its own", Check.typed(mill, "dog dog").synonym(), 3);
        Check.due("5: no chain", Check.typed(mill, "hound wolf").synonym(), 4);
        Check.due("5: one more", Check.typed(mill, "dog pet").synonym(), 5);
        Check.due("5: tokens of a dog", Check.typed(mill, "dogs").text(0), 3);
        Check.due("5: tokens of a hound", Check.typed(mill, "hound").text(0), 2);
        Check.due("5: tokens of a wolf", Check.typed(mill, "wolf").text(0), 1);
        Check.due("5: two dogs", Check.typed(mill, "dog dog").text(0), 6);
        for (int i = 6; i <= 10; i++) {
            Check.due("5: synonym " + i, Check.typed(mill, "s t").synonym(), i);
        }
        Check.typed(mill, "u v");
        Check.fails("5: an eleventh", Check.STATE, () -> mill.synonym());
        SearchMill other = new SearchMill();
        other.add(0);
        Check.typed(other, "u v");
        Check.fails("5: a document was added", Check.STATE, () -> other.synonym());
        Check.due("5: the pad stays", other.wipe(), 3);
        SearchMill third = new SearchMill();
        Check.typed(third, "old").stop();
        Check.typed(third, "old ancient").synonym();
        Check.typed(third, "new old").synonym();
        Check.due("5: a stop word has none, a second stem may be one", Check.typed(third, "old new").text(0), 2);
    }

    static void text() {
        SearchMill mill = new SearchMill();
        Check.typed(mill, "a b");
        Check.fails("6: field -1", Check.INDEX, () -> mill.text(-1));
        Check.fails("6: field 2", Check.INDEX, () -> mill.text(2));
        Check.due("6: the pad stays", mill.text(0), 2);
        Check.due("6: an empty text", mill.text(0), 0);
        Check.due("6: in place of it", Check.typed(mill, "x,y;z").text(0), 3);
        Check.due("6: most words", Check.typed(mill, "a b c d e f g h i j k l m n o p q r s t ").text(1), 20);
        Check.due("6: no words", Check.typed(mill, " ~!@#").text(1), 0);
        Check.due("6: a long word", Check.typed(mill, "abcdefghijklmnopqrstuvwxyz0123456789ABCD").text(1), 1);
    }

    static void columns() {
        SearchMill mill = new SearchMill();
        Check.fails("7: category -1", Check.ARGUMENT, () -> mill.columns(-1, 0));
        Check.fails("7: category 10", Check.ARGUMENT, () -> mill.columns(10, 0));
        Check.fails("7: number -1", Check.ARGUMENT, () -> mill.columns(0, -1));
        Check.fails("7: number 1000", Check.ARGUMENT, () -> mill.columns(0, 1000));
        mill.columns(9, 999);
        Check.fails("7: one is wrong", Check.ARGUMENT, () -> mill.columns(3, 1000));
        Check.typed(mill, "a").text(0);
        mill.add(1);
        Check.typed(mill, "a").text(0);
        mill.add(2);
        mill.flush();
        mill.look(true);
        Check.typed(mill, "a").term(0);
        mill.query();
        Check.due("7: category 9", mill.facet(0, 0, 9), 1);
        Check.due("7: the next draft has 0", mill.facet(0, 0, 0), 1);
        mill.columns(5, 5);
        mill.columns(6, 1);
        Check.added(mill, 3, "a");
        Check.added(mill, 4, "a");
        mill.flush();
        mill.look(true);
        Check.due("7: the last ones", mill.facet(1, 0, 6), 1);
        Check.due("7: 0 and 0 anew", mill.facet(1, 0, 0), 2);
        Check.due("7: the number is 0 anew", mill.sortedAt(1, 0, false, 1), 4);
        Check.due("7: number 999", mill.sortedAt(0, 0, true, 0), 1);
        Check.due("7: the next draft has number 0", mill.sortedAt(0, 0, true, 1), 2);
    }
}
