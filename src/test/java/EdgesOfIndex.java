import java.util.function.ToIntFunction;

/** The edges that the document names under "Packing" and "Snapshots" and in the promises 23 to 35. */
public final class EdgesOfIndex {
    private static final int[] FAR = {Integer.MIN_VALUE, -2, -1, 3, 4, Integer.MAX_VALUE};

    public static void main(String[] args) {
        placesOfTheIndex();
        noSuchPlace();
        noSuchDocument();
        noSuchField();
        noSuchWord();
        noSuchByte();
        orderOfWords();
        wordsLiveOrNot();
        sharedSigns();
        bytesOfWords();
        signsOfWords();
        noNumbersButZeros();
        widthsOfPlaces();
        widthsOfDocuments();
        groupsOfFour();
        fullAndFilledBytes();
        signedBytes();
        firstNumberOfADocument();
        bothFields();
        tokensOfSynonyms();
        questionsChangeNothing();
        fiveSnapshots();
        numbersOfSnapshots();
        snapshotOfNoCommit();
        snapshotWithoutTheBuffer();
        keepsUntilShut();
        noSuchSnapshot();
        lookRefused();
        Check.end();
    }

    /** Three segments of two documents, with the words "ape" and "bee" in both fields. */
    static SearchMill three() {
        SearchMill mill = new SearchMill();
        for (int key = 0; key < 6; key++) {
            Check.added(mill, key, "ape", "ape bee");
            if (key % 2 == 1) {
                mill.flush();
            }
        }
        return mill;
    }

    static SearchMill down() {
        SearchMill mill = three();
        mill.prepare();
        mill.finish();
        return Check.crashed(mill);
    }

    static void placesOfTheIndex() {
        SearchMill mill = three();
        Check.due("23: three", mill.segments(), 3);
        for (int place = 0; place < 3; place++) {
            Check.due("24: from 0", mill.segmentAt(place), place);
            Check.due("25: two", mill.live(place), 2);
            Check.due("26: the first document", mill.keyAt(place, 0), 2 * place);
            Check.due("26: the last document", mill.keyAt(place, 1), 2 * place + 1);
            Check.due("27: one word", mill.words(place, 0), 1);
            Check.due("27: two words", mill.words(place, 1), 2);
        }
        Check.due("23: none at first", new SearchMill().segments(), 0);
        Check.refused("23: DOWN", Check.STATE, EdgesOfIndex::down, SearchMill::segments);
    }

    static void noPlace(String what, int place, ToIntFunction<SearchMill> call) {
        SearchMill mill = three();
        Check.fails(what + " at the place " + place, Check.INDEX, () -> call.applyAsInt(mill));
        SearchMill empty = new SearchMill();
        Check.fails(what + " of an empty index", Check.INDEX, () -> call.applyAsInt(empty));
    }

    static void noSuchPlace() {
        for (int place : FAR) {
            noPlace("24", place, mill -> mill.segmentAt(place));
            noPlace("25", place, mill -> mill.live(place));
            noPlace("26", place, mill -> mill.keyAt(place, 0));
            noPlace("27", place, mill -> mill.words(place, 0));
            noPlace("28", place, mill -> mill.shared(place, 0, 0));
            noPlace("29", place, mill -> mill.wordBytes(place, 0));
            noPlace("30", place, mill -> mill.signAt(place, 0, 0, 0));
            noPlace("31", place, mill -> mill.bytes(place, 0, 0));
            noPlace("32", place, mill -> mill.byteAt(place, 0, 0, 0));
        }
        SearchMill mill = down();
        Check.fails("24: DOWN", Check.INDEX, () -> mill.segmentAt(0));
        Check.fails("25: DOWN", Check.INDEX, () -> mill.live(0));
        Check.fails("26: DOWN", Check.INDEX, () -> mill.keyAt(0, 0));
        Check.fails("27: DOWN", Check.INDEX, () -> mill.words(0, 0));
        Check.fails("28: DOWN", Check.INDEX, () -> mill.shared(0, 0, 0));
        Check.fails("29: DOWN", Check.INDEX, () -> mill.wordBytes(0, 0));
        Check.fails("30: DOWN", Check.INDEX, () -> mill.signAt(0, 0, 0, -1));
        Check.fails("31: DOWN", Check.INDEX, () -> mill.bytes(0, 0, 0));
        Check.fails("32: DOWN", Check.INDEX, () -> mill.byteAt(0, 0, 0, 0));
    }

    static void noSuchDocument() {
        for (int document : FAR) {
            Check.refused("26: the document " + document, Check.INDEX, EdgesOfIndex::three,
                mill -> mill.keyAt(1, document));
        }
        SearchMill mill = three();
        Check.fails("26: just behind the last one", Check.INDEX, () -> mill.keyAt(0, 2));
    }

    static void noSuchField() {
        SearchMill mill = three();
        for (int field : new int[] {Integer.MIN_VALUE, -1, 2, Integer.MAX_VALUE}) {
            Check.fails("27: the field " + field, Check.INDEX, () -> mill.words(0, field));
            Check.fails("28: the field " + field, Check.INDEX, () -> mill.shared(0, field, 0));
            Check.fails("29: the field " + field, Check.INDEX, () -> mill.wordBytes(0, field));
            Check.fails("30: the field " + field, Check.INDEX, () -> mill.signAt(0, field, 0, 0));
            Check.fails("31: the field " + field, Check.INDEX, () -> mill.bytes(0, field, 0));
            Check.fails("32: the field " + field, Check.INDEX, () -> mill.byteAt(0, field, 0, 0));
        }
    }

    static void noSuchWord() {
        SearchMill mill = three();
        mill.add(50);
        mill.flush();
        for (int word : new int[] {Integer.MIN_VALUE, -1, 2, 3, Integer.MAX_VALUE}) {
            Check.fails("28: the word " + word, Check.INDEX, () -> mill.shared(0, 1, word));
            Check.fails("30: the word " + word, Check.INDEX, () -> mill.signAt(0, 1, word, -1));
            Check.fails("31: the word " + word, Check.INDEX, () -> mill.bytes(0, 1, word));
            Check.fails("32: the word " + word, Check.INDEX, () -> mill.byteAt(0, 1, word, 0));
        }
        Check.fails("28: of one word the second", Check.INDEX, () -> mill.shared(0, 0, 1));
        Check.due("27: a segment without words", mill.words(3, 0), 0);
        Check.due("29: no bytes", mill.wordBytes(3, 0), 0);
        Check.fails("28: no words", Check.INDEX, () -> mill.shared(3, 0, 0));
        Check.fails("30: no words", Check.INDEX, () -> mill.signAt(3, 0, 0, 0));
        Check.fails("31: no words", Check.INDEX, () -> mill.bytes(3, 0, 0));
        Check.fails("32: no words", Check.INDEX, () -> mill.byteAt(3, 0, 0, 0));
    }

    static void noSuchByte() {
        SearchMill mill = three();
        int count = mill.bytes(0, 0, 0);
        Check.due("31: 0 0 0 0 and 0 0", count, 1);
        for (int index : new int[] {Integer.MIN_VALUE, -1, count, count + 1, 100, Integer.MAX_VALUE}) {
            Check.fails("32: the byte " + index, Check.INDEX, () -> mill.byteAt(0, 0, 0, index));
        }
        Check.due("32: the last byte", mill.byteAt(0, 0, 0, 0), 0);
    }

    static void orderOfWords() {
        SearchMill mill = new SearchMill();
        Check.added(mill, 0, "z9 za z zz 9 0 a aa a0 ab b 99 09");
        mill.flush();
        Check.due("by the codes of their signs, digits ahead of letters, a shorter one ahead", Check.words(mill),
            "0 09 9 99 a a0 aa ab b z z9 za zz");
    }

    static void wordsLiveOrNot() {
        SearchMill mill = new SearchMill();
        Check.added(mill, 0, "gone both");
        Check.added(mill, 1, "both");
        mill.flush();
        mill.delete(0);
        Check.due("words of documents that are not live", Check.words(mill), "both gone");
        Check.bits("postings of both documents", mill, 0, "0001 0 0 1 0 0000");
        Check.bits("postings of a document that is not live", mill, 1, "0000");
        mill.delete(1);
        Check.due("none is live", mill.words(0, 0), 2);
    }

    static void sharedSigns() {
        SearchMill mill = new SearchMill();
        Check.added(mill, 0, "abcdefghijkl abcdefghijkm ab abc b bcd", "x");
        mill.flush();
        int[] shared = {0, 2, 3, 11, 0, 1};
        for (int word = 0; word < shared.length; word++) {
            Check.due("28: word " + word, mill.shared(0, 0, word), shared[word]);
        }
        Check.due("28: 0 for the first word", mill.shared(0, 1, 0), 0);
        SearchMill digits = new SearchMill();
        Check.added(digits, 0, "0 00 01 1");
        digits.flush();
        Check.due("28: 00 begins with 0", digits.shared(0, 0, 1), 1);
        Check.due("28: 01 and 00", digits.shared(0, 0, 2), 1);
        Check.due("28: 1 and 01", digits.shared(0, 0, 3), 0);
    }

    static void bytesOfWords() {
        SearchMill mill = new SearchMill();
        Check.added(mill, 0, "abcdefghijkl abcdefghijkm ab abc b bcd", "x");
        mill.flush();
        Check.due("29: 4 + 3 + 11 + 3 + 3 + 4", mill.wordBytes(0, 0), 28);
        Check.due("29: one word of one sign", mill.wordBytes(0, 1), 3);
    }

    static void signsOfWords() {
        SearchMill mill = new SearchMill();
        Check.added(mill, 0, "09az abcdefghijkl");
        mill.flush();
        String[] words = {"09az", "abcdefghijkl"};
        for (int word = 0; word < 2; word++) {
            for (int sign = -2; sign < 15; sign++) {
                boolean isThere = sign >= 0 && sign < words[word].length();
                Check.due("30: sign " + sign, mill.signAt(0, 0, word, sign), isThere ? words[word].charAt(sign) : ' ');
            }
            Check.due("30: far below", mill.signAt(0, 0, word, Integer.MIN_VALUE), ' ');
            Check.due("30: far above", mill.signAt(0, 0, word, Integer.MAX_VALUE), ' ');
        }
    }

    static SearchMill flushed(String... texts) {
        SearchMill mill = new SearchMill();
        for (int key = 0; key < texts.length; key++) {
            Check.added(mill, key, texts[key]);
        }
        mill.flush();
        return mill;
    }

    static void noNumbersButZeros() {
        Check.bits("0 for 0: 0 0 0", flushed("a"), 0, "0000");
        Check.bits("0 for 0: 0 0 0 0, and 0 0", flushed("a", "a"), 0, "0000 0000");
    }

    static void widthsOfPlaces() {
        String[] widths = {"0000", "0001 0 0 1", "0010 00 00 10", "0010 00 00 11", "0011 000 000 100",
            "0011 000 000 101", "0011 000 000 110", "0011 000 000 111", "0100 0000 0000 1000", "0100 0000 0000 1001",
            "0100 0000 0000 1010", "0100 0000 0000 1011", "0100 0000 0000 1100", "0100 0000 0000 1101",
            "0100 0000 0000 1110", "0100 0000 0000 1111", "0101 00000 00000 10000", "0101 00000 00000 10001",
            "0101 00000 00000 10010", "0101 00000 00000 10011"};
        StringBuilder text = new StringBuilder();
        for (int place = 0; place < widths.length; place++) {
            Check.bits("the place " + place, flushed(text + "z"), place == 0 ? 0 : 1, widths[place]);
            text.append("a ");
        }
    }

    /** Documents with "z" at each of these places of a merged segment, and "a" in all others. */
    static SearchMill wide(int documents, int... numbers) {
        SearchMill mill = new SearchMill();
        for (int key = 0; key < documents; key++) {
            boolean isIn = false;
            for (int number : numbers) {
                isIn |= number == key;
            }
            Check.added(mill, key, isIn ? "z" : "a");
            if (key % 9 == 8) {
                mill.flush();
            }
        }
        while (mill.due() != SearchMill.NONE) {
            Check.merged(mill);
        }
        return mill;
    }

    static void widthsOfDocuments() {
        Check.bits("the document 26", wide(27, 26), 1, "0101 11010 00000 00000");
        Check.bits("the document 15", wide(27, 15), 1, "0100 1111 0000 0000");
        Check.bits("the document 16", wide(27, 16), 1, "0101 10000 00000 00000");
        Check.bits("the document 80 of 81", wide(81, 80), 1, "0111 1010000 0000000 0000000");
        Check.bits("the documents 0, 32 and 80: less those ahead, less 1", wide(81, 0, 32, 80), 1,
            "0101 00000 00000 00000 11111 0110 000000 000000 101111 000000 0000");
        Check.bits("the documents 0, 1 and 66", wide(81, 0, 1, 66), 1,
            "0000 0111 0000000 0000000 1000000 0000000 0000");
    }

    static void groupsOfFour() {
        Check.bits("three numbers", flushed("a"), 0, "0000");
        Check.bits("four numbers", flushed("a b a"), 0, "0001 0 1 0 1");
        Check.bits("five numbers, the last one alone", flushed("a b a a"), 0, "0010 00 10 00 01 0000");
        Check.bits("five numbers, the last one greater", flushed("a a b b a"), 0, "0010 00 10 00 00 0010 10");
        Check.bits("six numbers", flushed("a", "b", "b", "a"), 0, "0010 00 00 00 10 0000");
        Check.bits("seven numbers", flushed("a", "b", "b", "a b b a"), 0, "0010 00 00 00 10 0010 01 00 10");
        Check.bits("eight numbers", flushed("a a", "b", "b", "a b b a"), 0, "0001 0 1 0 0 0010 10 01 00 10");
        Check.bits("nine numbers", flushed("a a a", "b", "b", "a b b a"), 0, "0010 00 10 00 00 0010 00 10 01 00 0010 10");
    }

    static void fullAndFilledBytes() {
        Check.bits("just one byte", flushed("a a"), 0, "0001 0 1 0 0");
        Check.bits("just two bytes", flushed("b b b b b b b b a"), 0, "0100 0000 0000 1000");
        Check.bits("18 bits take three bytes", flushed("a a a b a"), 0, "0010 00 11 00 00 0001 0 1");
        Check.bits("24 bits take just three bytes", flushed("a a a", "b", "b", "a"), 0, "0010 00 10 00 00 0010 00 10 00 00");
        Check.bits("17 bits take three bytes", flushed("a a b a"), 0, "0010 00 10 00 00 0001 1");
        Check.bits("9 numbers of 0 in two bytes", flushed("a", "a", "a"), 0, "0000 0000 0000");
        Check.bits("20 places", flushed("a a a a a a a a a a a a a a a a a a a a"), 0,
            "0101 00000 10011 00000 00000 0000 0000 0000 0000 0000");
    }

    static void signedBytes() {
        SearchMill mill = flushed("a", "b a a", "b");
        // a: 0 0 0 0, 1 1 0: 0000 0001 110.
        Check.due("32: the least of all bytes is below 0", mill.byteAt(0, 0, 0, 1), -64);
        SearchMill high = flushed("b b b b b b b b b b b b b b b a a");
        // a: 0 1 15 0: 0100 0000 0001 1111 0000.
        Check.due("32: 64", high.byteAt(0, 0, 0, 0), 64);
        Check.due("32: 31", high.byteAt(0, 0, 0, 1), 31);
        SearchMill full = flushed("a b a", "a", "a");
        // a: 0 1 0 1, 0 0 0 0, 0 0: 0001 0101 0000 0000.
        Check.due("32: 21", full.byteAt(0, 0, 0, 0), 21);
        Check.due("32: 0", full.byteAt(0, 0, 0, 1), 0);
    }

    static void firstNumberOfADocument() {
        Check.bits("of the first one its number, 0", flushed("z", "z"), 0, "0000 0000");
        Check.bits("of the first one its number, 1", flushed("a", "z"), 1, "0001 1 0 0");
        Check.bits("of the first one its number, 11",
            flushed("a", "a", "a", "a", "a", "a", "a", "a", "a", "a", "a", "z"), 1, "0100 1011 0000 0000");
        Check.bits("0 for the next one", flushed("a", "z", "z"), 1, "0001 1 0 0 0 0000");
        Check.bits("places less 1, of the first one as it is", flushed("a z b z z"), 2, "0010 00 10 01 01 0000");
    }

    static void bothFields() {
        SearchMill mill = new SearchMill();
        Check.added(mill, 0, "ape", "bee bee");
        mill.flush();
        Check.due("27: field 0", Check.wordAt(mill, 0, 0, 0), "ape");
        Check.due("27: field 1", Check.wordAt(mill, 0, 1, 0), "bee");
        Check.due("32: field 0", mill.byteAt(0, 0, 0, 0), 0);
        Check.due("32: field 1", mill.byteAt(0, 1, 0, 0), 0b00010100);
    }

    static void tokensOfSynonyms() {
        SearchMill mill = new SearchMill();
        Check.typed(mill, "dog hound").synonym();
        Check.typed(mill, "dog cat").synonym();
        Check.added(mill, 0, "dog hound cat");
        mill.flush();
        Check.due("words of synonyms", Check.words(mill), "cat dog hound");
        Check.bits("cat at 0 and 2", mill, 0, "0001 0 1 0 1");
        Check.bits("dog at 0", mill, 1, "0000");
        Check.bits("hound at 0 and 1", mill, 2, "0001 0 1 0 0");
    }

    static void questionsChangeNothing() {
        Check.unchanged("questions to the index", EdgesOfIndex::three, mill -> {
            mill.segments();
            mill.segmentAt(0);
            mill.live(1);
            mill.keyAt(1, 1);
            mill.words(0, 1);
            mill.shared(0, 1, 1);
            mill.wordBytes(0, 1);
            mill.signAt(0, 1, 1, 2);
            mill.bytes(0, 1, 1);
            mill.byteAt(0, 1, 1, 0);
        });
        Check.unchanged("how many documents a snapshot has", () -> looked(3), mill -> mill.documents(1));
    }

    static SearchMill looked(int snapshots) {
        SearchMill mill = three();
        for (int i = 0; i < snapshots; i++) {
            mill.look(i % 2 == 0);
        }
        return mill;
    }

    static void fiveSnapshots() {
        SearchMill mill = looked(4);
        Check.due("33: a fifth", mill.look(true), 4);
        Check.fails("33: five are open, a fresh one", Check.STATE, () -> mill.look(true));
        Check.fails("33: five are open, one of the last commit", Check.STATE, () -> mill.look(false));
        mill.shut(2);
        Check.due("33: one was shut", mill.look(false), 5);
        Check.fails("33: five again", Check.STATE, () -> mill.look(true));
        for (int snapshot : new int[] {0, 1, 3, 4, 5}) {
            Check.due("35: open", mill.documents(snapshot), snapshot % 4 == 0 ? 6 : 0);
        }
        Check.fails("35: shut", Check.INDEX, () -> mill.documents(2));
    }

    static void numbersOfSnapshots() {
        SearchMill mill = new SearchMill();
        for (int i = 0; i < 12; i++) {
            Check.due("33: from 0, in the order in which they are opened", mill.look(i % 3 == 0), i);
            Check.due("34: shut", mill.shut(i), 0);
        }
        Check.fails("35: a shut one's number is not given again", Check.INDEX, () -> mill.documents(0));
        mill.add(1);
        mill.flush();
        Check.crashed(mill);
        mill.open();
        Check.due("33: also after a crash", mill.look(true), 12);
    }

    static void snapshotOfNoCommit() {
        SearchMill mill = three();
        mill.look(false);
        Check.due("35: without a commit it has none", mill.documents(0), 0);
        mill.prepare();
        mill.look(false);
        Check.due("35: a prepared one is none", mill.documents(1), 0);
        mill.finish();
        Check.due("35: it keeps what it has", mill.documents(0), 0);
        mill.look(false);
        Check.due("35: of the last commit", mill.documents(2), 6);
        Check.due("34: three segments, a commit", mill.shut(0), 4);
    }

    static void snapshotWithoutTheBuffer() {
        SearchMill mill = new SearchMill();
        mill.add(1);
        mill.look(true);
        Check.due("35: without the buffer", mill.documents(0), 0);
        mill.flush();
        Check.due("35: also when that is flushed", mill.documents(0), 0);
        mill.add(1);
        mill.look(true);
        Check.due("35: deleted by the one in the buffer", mill.documents(1), 0);
    }

    static void keepsUntilShut() {
        SearchMill mill = three();
        mill.look(true);
        mill.prepare();
        mill.finish();
        mill.look(false);
        for (int key = 0; key < 6; key++) {
            mill.delete(key);
        }
        mill.look(true);
        Check.merged(mill);
        mill.prepare();
        mill.finish();
        Check.due("23: nothing is left", mill.segments(), 0);
        Check.due("35: what was live then, a fresh one", mill.documents(0), 6);
        Check.due("35: what was live then, one of a commit", mill.documents(1), 6);
        Check.due("35: segments of which none is live", mill.documents(2), 0);
        Check.due("34: two others have the segments", mill.shut(0), 4);
        Check.due("34: one other has them", mill.shut(2), 4);
        Check.due("34: none has them, the commit is left", mill.shut(1), 1);
    }

    static void noSuchSnapshot() {
        for (int snapshot : new int[] {Integer.MIN_VALUE, -1, 0, 3, 4, Integer.MAX_VALUE}) {
            Check.refused("34: the snapshot " + snapshot, Check.INDEX, EdgesOfIndex::oneShut, mill -> mill.shut(snapshot));
            Check.refused("35: the snapshot " + snapshot, Check.INDEX, EdgesOfIndex::oneShut,
                mill -> mill.documents(snapshot));
        }
        SearchMill mill = looked(2);
        Check.crashed(mill);
        Check.fails("34: DOWN", Check.INDEX, () -> mill.shut(0));
        Check.fails("35: DOWN", Check.INDEX, () -> mill.documents(0));
    }

    /** The snapshots 1 and 2 are open. */
    static SearchMill oneShut() {
        SearchMill mill = looked(3);
        mill.shut(0);
        return mill;
    }

    static void lookRefused() {
        Check.refused("33: five are open", Check.STATE, () -> looked(5), mill -> mill.look(true));
        Check.refused("33: DOWN", Check.STATE, EdgesOfIndex::down, mill -> mill.look(true));
        Check.refused("33: DOWN, of the last commit", Check.STATE, EdgesOfIndex::down, mill -> mill.look(false));
        Check.refused("33: DOWN, five were open", Check.STATE, () -> Check.crashed(looked(5)), mill -> mill.look(true));
        SearchMill mill = looked(5);
        Check.fails("33: five are open", Check.STATE, () -> mill.look(true));
        mill.shut(0);
        Check.due("33: no number was taken", mill.look(true), 5);
    }
}
