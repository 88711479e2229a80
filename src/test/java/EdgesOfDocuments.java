import java.util.function.Supplier;

/** The edges that the document names under "Documents, buffer, deletions" and in the promises 7 to 10. */
public final class EdgesOfDocuments {
    public static void main(String[] args) {
        columnsAtTheirEdges();
        columnsRefused();
        draftAtFirstAndAnew();
        draftIsLeftByARefusedAdd();
        keys0To99();
        twelveDocuments();
        fullBufferAndASameKey();
        behindTheOthers();
        sameKeyInASegment();
        deletedInTheBuffer();
        deletedInASegment();
        deleteRefused();
        emptyFlush();
        flushOfAllSizes();
        crashAtEachWriteOfAFlush();
        twoHundredSegments();
        flushRefused();
        Check.end();
    }

    static SearchMill full() {
        SearchMill mill = new SearchMill();
        for (int i = 0; i < 12; i++) {
            Check.added(mill, i, "cat");
        }
        Check.typed(mill, "new").text(0);
        mill.columns(3, 500);
        return mill;
    }

    static SearchMill down() {
        SearchMill mill = new SearchMill();
        mill.add(1);
        mill.prepare();
        mill.finish();
        mill.add(2);
        Check.typed(mill, "new").text(0);
        mill.columns(3, 500);
        return Check.crashed(mill);
    }

    static void columnsAtTheirEdges() {
        SearchMill mill = new SearchMill();
        int[][] columns = {{0, 0}, {9, 999}, {0, 999}, {9, 0}, {8, 998}};
        for (int i = 0; i < columns.length; i++) {
            mill.columns(columns[i][0], columns[i][1]);
            Check.added(mill, i, "a");
        }
        mill.flush();
        mill.look(true);
        Check.termQuery(mill, 0, "a");
        Check.due("7: category 0", mill.facet(0, 0, 0), 2);
        Check.due("7: category 9", mill.facet(0, 0, 9), 2);
        Check.due("7: category 8", mill.facet(0, 0, 8), 1);
        int[] rising = {0, 3, 4, 1, 2};
        for (int i = 0; i < rising.length; i++) {
            Check.due("7: numbers 0, 998 and 999: place " + i, mill.sortedAt(0, 0, false, i), rising[i]);
        }
    }

    static void columnsRefused() {
        int[][] wrong = {{-1, 0}, {10, 0}, {0, -1}, {0, 1000}, {-1, -1}, {10, 1000}, {-1, 1000}};
        for (int[] pair : wrong) {
            Check.refused("7: category " + pair[0] + ", number " + pair[1], Check.ARGUMENT, () -> {
                SearchMill mill = new SearchMill();
                mill.columns(4, 600);
                return mill;
            }, mill -> mill.columns(pair[0], pair[1]));
        }
        SearchMill mill = down();
        mill.columns(9, 999);
        Check.fails("7: out of range while it is DOWN", Check.ARGUMENT, () -> mill.columns(10, 0));
    }

    static void draftAtFirstAndAnew() {
        SearchMill mill = new SearchMill();
        Check.due("8: an untouched draft", mill.add(0), 1);
        Check.typed(mill, "cat dog").text(0);
        Check.typed(mill, "ape").text(1);
        mill.columns(9, 999);
        mill.add(1);
        mill.add(2);
        for (int i = 3; i < 5; i++) {
            Check.added(mill, i, "cat");
        }
        mill.flush();
        mill.look(true);
        Check.due("8: words of one document alone", mill.words(0, 0) + mill.words(0, 1), 3);
        Check.typed(mill, "cat").term(0);
        Check.due("8: 1, and those behind it that have a text", Check.keys(mill), 0b11010);
        Check.due("8: the category 0 anew", mill.facet(0, 0, 0), 2);
        Check.due("8: the category 9 once", mill.facet(0, 0, 9), 1);
        Check.due("8: the number 0 anew", mill.sortedAt(0, 0, false, 1), 4);
        Check.due("8: the number 999 once", mill.sortedAt(0, 0, false, 2), 1);
        Check.typed(mill, "ape").term(1);
        Check.due("8: field 1 is empty anew", Check.keys(mill), 0b00010);
        SearchMill first = new SearchMill();
        Check.added(first, 0, "a");
        first.columns(1, 1);
        Check.added(first, 1, "a");
        first.flush();
        first.look(true);
        Check.termQuery(first, 0, "a");
        Check.due("the category is 0 at first", first.facet(0, 0, 0), 1);
        Check.due("the number is 0 at first", first.sortedAt(0, 0, false, 0), 0);
        numberOfADraft(false);
        numberOfADraft(true);
    }

    /** A number that was not told is neither less nor more than a 0 that was. */
    static void numberOfADraft(boolean isToldFirst) {
        SearchMill mill = new SearchMill();
        for (int key = 0; key < 2; key++) {
            if (isToldFirst == (key == 0)) {
                mill.columns(0, 0);
            }
            Check.added(mill, key, "a");
        }
        mill.flush();
        mill.look(true);
        Check.termQuery(mill, 0, "a");
        for (int place = 0; place < 2; place++) {
            Check.due("the number is 0, rising", mill.sortedAt(0, 0, false, place), place);
            Check.due("the number is 0, falling", mill.sortedAt(0, 0, true, place), place);
        }
        Check.due("the category is 0", mill.facet(0, 0, 0), 2);
    }

    static void draftIsLeftByARefusedAdd() {
        for (int key : new int[] {-1, 100, Integer.MIN_VALUE, Integer.MAX_VALUE}) {
            Check.refused("8: no such key: " + key, Check.INDEX, EdgesOfDocuments::full, mill -> mill.add(key));
            Check.refused("8: no such key, and DOWN: " + key, Check.INDEX, EdgesOfDocuments::down, mill -> mill.add(key));
        }
        Check.refused("8: the buffer has 12", Check.STATE, EdgesOfDocuments::full, mill -> mill.add(12));
        Check.refused("8: DOWN", Check.STATE, EdgesOfDocuments::down, mill -> mill.add(5));
        Supplier<SearchMill> both = () -> {
            SearchMill mill = new SearchMill();
            mill.add(50);
            mill.flush();
            for (int i = 0; i < 12; i++) {
                mill.add(i);
            }
            return mill;
        };
        Check.refused("8: the buffer has 12, the key is in a segment alone", Check.STATE, both, mill -> mill.add(50));
        SearchMill mill = both.get();
        Check.fails("8: full", Check.STATE, () -> mill.add(50));
        Check.due("8: the one in the segment is live", mill.live(0), 1);
    }

    static void keys0To99() {
        SearchMill mill = new SearchMill();
        Check.due("8: key 0", mill.add(0), 1);
        Check.due("8: key 99", mill.add(99), 2);
        mill.flush();
        Check.due("26: key 0", mill.keyAt(0, 0), 0);
        Check.due("26: key 99", mill.keyAt(0, 1), 99);
        Check.due("9: key 99", mill.delete(99), true);
        Check.due("9: key 0", mill.delete(0), true);
        Check.due("25: none", mill.live(0), 0);
    }

    static void twelveDocuments() {
        SearchMill mill = new SearchMill();
        for (int i = 0; i < 12; i++) {
            Check.due("8: up to 12 documents", mill.add(i), i + 1);
        }
        Check.fails("8: a thirteenth", Check.STATE, () -> mill.add(12));
        mill.delete(3);
        Check.due("8: room again", mill.add(12), 12);
        Check.fails("8: full again", Check.STATE, () -> mill.add(3));
        mill.flush();
        Check.due("8: room for all", mill.add(3), 1);
        Check.due("8: twelve in the segment", mill.live(0), 12);
        Check.due("8: the last one", mill.keyAt(0, 11), 12);
        Check.fails("26: no thirteenth", Check.INDEX, () -> mill.keyAt(0, 12));
    }

    static void fullBufferAndASameKey() {
        for (int key : new int[] {0, 5, 11}) {
            SearchMill mill = full();
            Check.due("8: full, but with this key: " + key, mill.add(key), 12);
            mill.flush();
            Check.due("8: it comes behind the others", mill.keyAt(0, 11), key);
            Check.due("8: the others move up", mill.keyAt(0, 10), key == 11 ? 10 : 11);
            Check.due("8: its text is the new one", Check.words(mill), "cat new");
        }
    }

    static void behindTheOthers() {
        SearchMill mill = new SearchMill();
        mill.add(7);
        mill.add(3);
        Check.due("8: the same key alone", mill.add(7), 2);
        mill.add(9);
        Check.due("8: the same key as the last one", mill.add(9), 3);
        mill.flush();
        int[] keys = {3, 7, 9};
        for (int i = 0; i < keys.length; i++) {
            Check.due("8: in their order, numbered from 0", mill.keyAt(0, i), keys[i]);
        }
        SearchMill one = new SearchMill();
        one.add(4);
        Check.due("8: the only one anew", one.add(4), 1);
    }

    static void sameKeyInASegment() {
        SearchMill mill = Check.withSegments(2, 2);
        Check.due("8: the key of a document of a segment", mill.add(2), 1);
        Check.due("8: it is deleted", mill.live(1), 1);
        Check.due("8: the other segment is as it was", mill.live(0), 2);
        Check.due("8: it stays in it", mill.keyAt(1, 0), 2);
        Check.due("8: once more", mill.add(2), 1);
        Check.due("8: nothing more is deleted", mill.live(1), 1);
        Check.due("9: the one in the buffer", mill.delete(2), true);
        Check.due("9: the one in the segment was deleted already", mill.delete(2), false);
        Check.due("10: the buffer is empty", mill.flush(), SearchMill.NONE);
    }

    static void deletedInTheBuffer() {
        SearchMill mill = new SearchMill();
        mill.add(1);
        mill.add(2);
        mill.add(3);
        Check.due("9: one in the middle", mill.delete(2), true);
        Check.due("9: it is gone", mill.delete(2), false);
        Check.due("8: two and one", mill.add(4), 3);
        Check.due("10: flushed without it", mill.flush(), 0);
        Check.due("22: three writes and one", mill.writes(), 4);
        Check.due("26: the one behind it moved up", mill.keyAt(0, 1), 3);
        SearchMill other = new SearchMill();
        other.add(1);
        other.delete(1);
        Check.due("10: all are gone, so nothing is done", other.flush(), SearchMill.NONE);
        Check.due("10: no segment", other.segments(), 0);
        Check.due("10: no write", other.writes(), 0);
    }

    static void deletedInASegment() {
        SearchMill mill = Check.withSegments(3);
        Check.due("9: the first", mill.delete(0), true);
        Check.due("9: the last", mill.delete(2), true);
        Check.due("9: not live", mill.delete(0), false);
        Check.due("25: one is left", mill.live(0), 1);
        Check.due("26: all stay in it", mill.keyAt(0, 0) + 10 * mill.keyAt(0, 1) + 100 * mill.keyAt(0, 2), 210);
        Check.due("9: the one that is left", mill.delete(1), true);
        Check.due("25: none", mill.live(0), 0);
        Check.due("23: the segment stays", mill.segments(), 1);
        Check.due("9: no such document", mill.delete(50), false);
        Check.due("22: to delete is no write", mill.writes(), 4);
        Check.due("9: nothing was there at any time", new SearchMill().delete(0), false);
    }

    static void deleteRefused() {
        for (int key : new int[] {-1, 100, Integer.MIN_VALUE, Integer.MAX_VALUE}) {
            Check.refused("9: no such key: " + key, Check.INDEX, () -> Check.withSegments(2), mill -> mill.delete(key));
            Check.refused("9: no such key, and DOWN: " + key, Check.INDEX, EdgesOfDocuments::down,
                mill -> mill.delete(key));
        }
        Check.refused("9: DOWN", Check.STATE, EdgesOfDocuments::down, mill -> mill.delete(1));
        SearchMill mill = down();
        Check.fails("9: DOWN", Check.STATE, () -> mill.delete(1));
        mill.open();
        Check.due("9: nothing was deleted", mill.delete(1), true);
    }

    static void emptyFlush() {
        Check.unchanged("10: with an empty buffer nothing is done", () -> Check.withSegments(1, 1, 1), SearchMill::flush);
        Check.unchanged("10: and no crash comes", () -> {
            SearchMill mill = Check.withSegments(2);
            mill.crashAt(0);
            return mill;
        }, SearchMill::flush);
        Check.due("10: at first", new SearchMill().flush(), SearchMill.NONE);
        SearchMill mill = Check.withSegments(1);
        mill.crashAt(0);
        Check.due("10: no write, no crash", mill.flush(), SearchMill.NONE);
        Check.due("10: not DOWN", mill.isDown(), false);
    }

    static void flushOfAllSizes() {
        for (int size = 1; size <= 12; size++) {
            SearchMill mill = Check.withSegments(size);
            Check.due("10: a write for each of " + size + ", and one", mill.writes(), size + 1);
            Check.due("10: numbered from 0", mill.segmentAt(0), 0);
            Check.due("10: all are live", mill.live(0), size);
        }
    }

    static void crashAtEachWriteOfAFlush() {
        for (int writes = 0; writes <= 4; writes++) {
            SearchMill mill = committedOne();
            int before = mill.writes();
            for (int key = 10; key < 13; key++) {
                mill.add(key);
            }
            mill.crashAt(writes);
            Check.due("10: " + writes + " writes ahead of the crash", mill.flush(), writes < 4 ? SearchMill.DOWN : 1);
            Check.due("22: so many were done", mill.writes() - before, writes);
            Check.due("20: DOWN", mill.isDown(), writes < 4);
            if (writes < 4) {
                Check.due("19: the segment is not there", mill.open(), 1);
                Check.due("10: the buffer is gone", mill.flush(), SearchMill.NONE);
                Check.due("9: so are its documents", mill.delete(11), false);
                mill.add(11);
                Check.due("10: no number was taken", mill.flush(), 1);
            } else {
                Check.due("25: the segment is whole", mill.live(1), 3);
                mill.add(13);
                Check.due("10: the next write is the crash", mill.flush(), SearchMill.DOWN);
            }
        }
    }

    static SearchMill committedOne() {
        SearchMill mill = Check.withSegments(1);
        mill.prepare();
        mill.finish();
        return mill;
    }

    static void twoHundredSegments() {
        SearchMill mill = Check.made(199);
        Check.due("10: 199 were made, an empty buffer", mill.flush(), SearchMill.NONE);
        mill.add(0);
        Check.due("10: the 200th", mill.flush(), 199);
        Check.fails("10: 200 were made, an empty buffer", Check.STATE, () -> mill.flush());
        mill.add(0);
        Check.fails("10: 200 were made", Check.STATE, () -> mill.flush());
        Check.due("23: 200", mill.segments(), 200);
        Check.due("24: the last one", mill.segmentAt(199), 199);
        Check.fails("24: none behind it", Check.INDEX, () -> mill.segmentAt(200));
    }

    static void flushRefused() {
        Check.refused("10: DOWN", Check.STATE, EdgesOfDocuments::down, SearchMill::flush);
        Check.refused("10: 200 were made", Check.STATE, () -> {
            SearchMill mill = Check.made(200);
            mill.add(3);
            return mill;
        }, SearchMill::flush);
        Check.refused("10: 200 were made, an empty buffer", Check.STATE, () -> Check.made(200), SearchMill::flush);
    }
}
