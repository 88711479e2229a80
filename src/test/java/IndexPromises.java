/** Promises 23 to 35: the index, words and postings, snapshots. */
public final class IndexPromises {
    public static void main(String[] args) {
        places();
        words();
        wordSigns();
        packing();
        wideNumbers();
        manyDocuments();
        whileDown();
        look();
        shut();
        documents();
        Check.end();
    }

    static void places() {
        SearchMill mill = new SearchMill();
        Check.due("23: empty", mill.segments(), 0);
        Check.fails("24: no place", Check.INDEX, () -> mill.segmentAt(0));
        Check.fails("25: no place", Check.INDEX, () -> mill.live(0));
        Check.fails("26: no place", Check.INDEX, () -> mill.keyAt(0, 0));
        mill.add(3);
        mill.add(99);
        Check.due("23: the buffer is no segment", mill.segments(), 0);
        mill.flush();
        mill.add(0);
        mill.flush();
        Check.due("23: two", mill.segments(), 2);
        Check.due("24: the first", mill.segmentAt(0), 0);
        Check.due("24: the second", mill.segmentAt(1), 1);
        Check.fails("24: below", Check.INDEX, () -> mill.segmentAt(-1));
        Check.fails("24: above", Check.INDEX, () -> mill.segmentAt(2));
        Check.due("25: two", mill.live(0), 2);
        mill.delete(3);
        Check.due("25: one", mill.live(0), 1);
        Check.fails("25: below", Check.INDEX, () -> mill.live(-1));
        Check.fails("25: above", Check.INDEX, () -> mill.live(2));
        Check.due("26: live or not", mill.keyAt(0, 0), 3);
        Check.due("26: the second", mill.keyAt(0, 1), 99);
        Check.fails("26: no document", Check.INDEX, () -> mill.keyAt(0, 2));
        Check.fails("26: document -1", Check.INDEX, () -> mill.keyAt(0, -1));
        Check.fails("26: place 2", Check.INDEX, () -> mill.keyAt(2, 0));
        Check.fails("26: place -1", Check.INDEX, () -> mill.keyAt(-1, 0));
    }

    static void words() {
        SearchMill mill = new SearchMill();
        Check.fails("27: no place", Check.INDEX, () -> mill.words(0, 0));
        Check.added(mill, 0, "Running CARS car", "x");
        Check.added(mill, 1, "carting 9 a");
        mill.flush();
        mill.delete(0);
        Check.due("27: run, car, cart, 9, a", mill.words(0, 0), 5);
        Check.due("27: x", mill.words(0, 1), 1);
        Check.fails("27: field 2", Check.INDEX, () -> mill.words(0, 2));
        Check.fails("27: field -1", Check.INDEX, () -> mill.words(0, -1));
        Check.fails("27: place 1", Check.INDEX, () -> mill.words(1, 0));
        // 9, a, car, cart, runn
        Check.due("28: the first word", mill.shared(0, 0, 0), 0);
        Check.due("28: a and 9", mill.shared(0, 0, 1), 0);
        Check.due("28: car and a", mill.shared(0, 0, 2), 0);
        Check.due("28: cart and car", mill.shared(0, 0, 3), 3);
        Check.due("28: runn and cart", mill.shared(0, 0, 4), 0);
        Check.fails("28: word 5", Check.INDEX, () -> mill.shared(0, 0, 5));
        Check.fails("28: word -1", Check.INDEX, () -> mill.shared(0, 0, -1));
        Check.fails("28: field 2", Check.INDEX, () -> mill.shared(0, 2, 0));
        Check.fails("28: place 1", Check.INDEX, () -> mill.shared(1, 0, 0));
        Check.due("29: 3 + 3 + 5 + 3 + 6", mill.wordBytes(0, 0), 20);
        Check.due("29: 3", mill.wordBytes(0, 1), 3);
        Check.fails("29: field -1", Check.INDEX, () -> mill.wordBytes(0, -1));
        Check.fails("29: place -1", Check.INDEX, () -> mill.wordBytes(-1, 0));
        Check.added(mill, 2, "");
        mill.flush();
        Check.due("27: none", mill.words(1, 0), 0);
        Check.due("29: none", mill.wordBytes(1, 1), 0);
        Check.fails("28: none", Check.INDEX, () -> mill.shared(1, 0, 0));
    }

    static void wordSigns() {
        SearchMill mill = new SearchMill();
        Check.added(mill, 0, "ABCDEFGHIJKLMNOP zz", "abc ab abd");
        mill.flush();
        Check.due("28: abc and ab", mill.shared(0, 1, 1), 2);
        Check.due("28: abd and abc", mill.shared(0, 1, 2), 2);
        Check.due("29: 4 + 3 + 3", mill.wordBytes(0, 1), 10);
        Check.due("29: 14 + 4", mill.wordBytes(0, 0), 18);
        Check.due("30: small letters", mill.signAt(0, 0, 0, 0), 'a');
        Check.due("30: the twelfth sign", mill.signAt(0, 0, 0, 11), 'l');
        Check.due("30: no thirteenth", mill.signAt(0, 0, 0, 12), ' ');
        Check.due("30: below", mill.signAt(0, 0, 0, -1), ' ');
        Check.due("30: far above", mill.signAt(0, 0, 0, Integer.MAX_VALUE), ' ');
        Check.due("30: far below", mill.signAt(0, 0, 0, Integer.MIN_VALUE), ' ');
        Check.due("30: the shorter one first", mill.signAt(0, 1, 0, 2), ' ');
        Check.due("30: abc", mill.signAt(0, 1, 1, 2), 'c');
        Check.due("30: abd", mill.signAt(0, 1, 2, 2), 'd');
        Check.fails("30: word 2", Check.INDEX, () -> mill.signAt(0, 0, 2, 0));
        Check.fails("30: word -1", Check.INDEX, () -> mill.signAt(0, 0, -1, 0));
        Check.fails("30: field 2", Check.INDEX, () -> mill.signAt(0, 2, 0, 0));
        Check.fails("30: place 1", Check.INDEX, () -> mill.signAt(1, 0, 0, 0));
        String[] stems = {"king", "king", "aking", "aking", "baking", "bak", "red", "red", "bred", "bred", "abred", "abr",
            "bus", "bus", "cats", "cat", "glass", "glass", "eds", "eds", "ingeds", "inged", "seeded", "seed",
            "abcdefghijing", "abcdefghijin", "abcdefghiing", "abcdefghi"};
        for (int i = 0; i < stems.length; i += 2) {
            SearchMill other = new SearchMill();
            Check.added(other, 0, stems[i]);
            other.flush();
            for (int j = 0; j <= stems[i + 1].length(); j++) {
                char due = j < stems[i + 1].length() ? stems[i + 1].charAt(j) : ' ';
                Check.due("30: the stem of " + stems[i], other.signAt(0, 0, 0, j), due);
            }
        }
    }

    static void packing() {
        SearchMill mill = new SearchMill();
        Check.added(mill, 0, "a");
        Check.added(mill, 1, "b a a");
        Check.added(mill, 2, "b");
        mill.flush();
        // a: 0 0 0 0 | 1 1 0: 0000 then 0001 1 1 0, which is 00000001 11000000 >> 0: 0000 0001 110.
        Check.due("31: a takes 11 bits", mill.bytes(0, 0, 0), 2);
        Check.due("32: the first byte", mill.byteAt(0, 0, 0, 0), 0x01);
        Check.due("32: the second byte, a signed one", mill.byteAt(0, 0, 0, 1), (byte) 0xC0);
        Check.fails("32: byte 2", Check.INDEX, () -> mill.byteAt(0, 0, 0, 2));
        Check.fails("32: byte -1", Check.INDEX, () -> mill.byteAt(0, 0, 0, -1));
        // b: 1 0 0 0 | 0 0: 0001 1 0 0 0, 0000, which is 00011000 00000000.
        Check.due("31: b takes 12 bits", mill.bytes(0, 0, 1), 2);
        Check.due("32: b", mill.byteAt(0, 0, 1, 0), 0x18);
        Check.due("32: filled up with 0", mill.byteAt(0, 0, 1, 1), 0);
        Check.fails("31: word 2", Check.INDEX, () -> mill.bytes(0, 0, 2));
        Check.fails("31: word -1", Check.INDEX, () -> mill.bytes(0, 0, -1));
        Check.fails("31: field 2", Check.INDEX, () -> mill.bytes(0, 2, 0));
        Check.fails("31: place 1", Check.INDEX, () -> mill.bytes(1, 0, 0));
        Check.fails("32: word 2", Check.INDEX, () -> mill.byteAt(0, 0, 2, 0));
        Check.fails("32: field -1", Check.INDEX, () -> mill.byteAt(0, -1, 0, 0));
        Check.fails("32: place -1", Check.INDEX, () -> mill.byteAt(-1, 0, 0, 0));
    }

    static void wideNumbers() {
        SearchMill mill = new SearchMill();
        Check.added(mill, 0, "x x x x x x x x x x x x x x x x x x x y");
        mill.flush();
        // y: 0 0 19: 0101 00000 00000 10011, which is 01010000 00000010 01100000.
        Check.due("31: y takes 19 bits", mill.bytes(0, 0, 1), 3);
        Check.due("32: y 0", mill.byteAt(0, 0, 1, 0), 0x50);
        Check.due("32: y 1", mill.byteAt(0, 0, 1, 1), 0x02);
        Check.due("32: y 2", mill.byteAt(0, 0, 1, 2), 0x60);
        // x: 0 18 and 19 times 0: 0101 00000 10010 00000 00000, then 0000 four times, and once for one.
        Check.due("31: x takes 24 and 20 bits", mill.bytes(0, 0, 0), 6);
        Check.due("32: x 0", mill.byteAt(0, 0, 0, 0), 0x50);
        Check.due("32: x 1", mill.byteAt(0, 0, 0, 1), 0x48);
        Check.due("32: x 2", mill.byteAt(0, 0, 0, 2), 0);
        Check.due("32: x 5", mill.byteAt(0, 0, 0, 5), 0);
    }

    static void manyDocuments() {
        SearchMill mill = new SearchMill();
        for (int i = 0; i < 27; i++) {
            Check.added(mill, i, i == 26 ? "late" : "soon");
            if (i % 9 == 8) {
                mill.flush();
            }
        }
        Check.due("12: all are to be copied", mill.merge(), 27);
        for (int i = 0; i < 28; i++) {
            mill.step();
        }
        // late: 26 0 0: 0101 11010 00000 00000, which is 01011101 00000000 000.
        Check.due("32: the number of the document", mill.byteAt(0, 0, 0, 0), 0x5D);
        Check.due("32: one place", mill.byteAt(0, 0, 0, 1), 0);
        Check.due("31: late", mill.bytes(0, 0, 0), 3);
        Check.due("31: soon, 78 numbers that are 0", mill.bytes(0, 0, 1), 10);
    }

    static void whileDown() {
        SearchMill mill = new SearchMill();
        Check.added(mill, 0, "a");
        mill.prepare();
        mill.finish();
        mill.crashAt(0);
        mill.prepare();
        Check.fails("23: DOWN", Check.STATE, () -> mill.segments());
        Check.fails("24: DOWN", Check.INDEX, () -> mill.segmentAt(0));
        Check.fails("25: DOWN", Check.INDEX, () -> mill.live(0));
        Check.fails("26: DOWN", Check.INDEX, () -> mill.keyAt(0, 0));
        Check.fails("27: DOWN", Check.INDEX, () -> mill.words(0, 0));
        Check.fails("28: DOWN", Check.INDEX, () -> mill.shared(0, 0, 0));
        Check.fails("29: DOWN", Check.INDEX, () -> mill.wordBytes(0, 0));
        Check.fails("30: DOWN", Check.INDEX, () -> mill.signAt(0, 0, 0, 0));
        Check.fails("31: DOWN", Check.INDEX, () -> mill.bytes(0, 0, 0));
        Check.fails("32: DOWN", Check.INDEX, () -> mill.byteAt(0, 0, 0, 0));
        Check.fails("33: DOWN", Check.STATE, () -> mill.look(true));
        Check.fails("33: DOWN, of the commit", Check.STATE, () -> mill.look(false));
        Check.fails("34: DOWN", Check.INDEX, () -> mill.shut(0));
        Check.fails("35: DOWN", Check.INDEX, () -> mill.documents(0));
        mill.open();
        Check.due("24: open", mill.segmentAt(0), 0);
        Check.due("30: open", mill.signAt(0, 0, 0, 0), 'a');
    }

    static void look() {
        SearchMill mill = new SearchMill();
        Check.due("33: the first", mill.look(false), 0);
        mill.add(1);
        mill.flush();
        mill.prepare();
        Check.due("33: what is prepared is no commit", mill.look(false), 1);
        Check.due("35: none", mill.documents(1), 0);
        mill.finish();
        mill.add(2);
        mill.flush();
        mill.add(3);
        Check.due("33: of the commit", mill.look(false), 2);
        Check.due("35: of the commit", mill.documents(2), 1);
        Check.due("33: a fresh one", mill.look(true), 3);
        Check.due("35: without the buffer", mill.documents(3), 2);
        Check.due("33: a fifth", mill.look(true), 4);
        Check.fails("33: five are open", Check.STATE, () -> mill.look(true));
        mill.shut(1);
        Check.due("33: the numbers go on", mill.look(true), 5);
        mill.delete(1);
        mill.delete(2);
        mill.delete(3);
        Check.due("33: it keeps what was live", mill.documents(3), 2);
        Check.due("33: the commit keeps it, too", mill.documents(2), 1);
    }

    static void shut() {
        SearchMill mill = new SearchMill();
        Check.fails("34: none", Check.INDEX, () -> mill.shut(0));
        for (int i = 0; i < 3; i++) {
            mill.add(i);
            mill.flush();
        }
        mill.look(true);
        mill.look(true);
        mill.merge();
        for (int i = 0; i < 4; i++) {
            mill.step();
        }
        Check.due("34: the sources stay for both", mill.files(), 4);
        Check.due("34: one still has them", mill.shut(0), 4);
        Check.fails("34: it is shut", Check.INDEX, () -> mill.shut(0));
        Check.fails("35: it is shut", Check.INDEX, () -> mill.documents(0));
        Check.fails("34: snapshot -1", Check.INDEX, () -> mill.shut(-1));
        Check.fails("34: snapshot 2", Check.INDEX, () -> mill.shut(2));
        Check.due("34: the last one", mill.shut(1), 1);
    }

    static void documents() {
        SearchMill mill = new SearchMill();
        Check.fails("35: none", Check.INDEX, () -> mill.documents(0));
        mill.look(true);
        Check.due("35: an empty index", mill.documents(0), 0);
        mill.add(1);
        mill.add(2);
        mill.flush();
        mill.add(3);
        mill.flush();
        mill.delete(1);
        mill.look(true);
        Check.due("35: live ones", mill.documents(1), 2);
        Check.due("35: as it was", mill.documents(0), 0);
        Check.fails("35: snapshot 2", Check.INDEX, () -> mill.documents(2));
        Check.fails("35: snapshot -1", Check.INDEX, () -> mill.documents(-1));
    }
}
