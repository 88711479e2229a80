/** Promises 8 to 14: documents, the buffer, segments, merging. */
public final class DocumentPromises {
    public static void main(String[] args) {
        add();
        addReplaces();
        delete();
        flush();
        mostSegments();
        due();
        merge();
        step();
        stepWithDeletions();
        emptyMerge();
        giveUp();
        Check.end();
    }

    static void add() {
        SearchMill mill = new SearchMill();
        Check.fails("8: key -1", Check.INDEX, () -> mill.add(-1));
        Check.fails("8: key 100", Check.INDEX, () -> mill.add(100));
        Check.due("8: key 0", mill.add(0), 1);
        Check.due("8: key 99", mill.add(99), 2);
        Check.due("8: key 99 again", mill.add(99), 2);
        for (int i = 1; i <= 10; i++) {
            Check.due("8: document " + i, mill.add(i), i + 2);
        }
        Check.fails("8: a thirteenth", Check.STATE, () -> mill.add(50));
        Check.fails("8: no such key goes ahead", Check.INDEX, () -> mill.add(100));
        Check.due("8: a key of the full buffer", mill.add(0), 12);
        mill.flush();
        Check.due("8: it comes behind the others", mill.keyAt(0, 11), 0);
        Check.due("8: the first one", mill.keyAt(0, 0), 99);
        mill.add(20);
        mill.crashAt(0);
        mill.flush();
        Check.fails("8: DOWN", Check.STATE, () -> mill.add(1));
        Check.fails("8: DOWN and no such key", Check.INDEX, () -> mill.add(-1));
        mill.open();
        Check.due("8: the buffer was gone", mill.add(1), 1);
    }

    static void addReplaces() {
        SearchMill mill = new SearchMill();
        Check.added(mill, 7, "cat", "dog");
        mill.flush();
        Check.due("8: live", mill.live(0), 1);
        Check.due("8: the same key", mill.add(7), 1);
        Check.due("8: the one in the segment is deleted", mill.live(0), 0);
        mill.flush();
        Check.due("8: the draft was empty", mill.words(1, 0) + mill.words(1, 1), 0);
        Check.due("8: the old one stays", mill.keyAt(0, 0), 7);
        SearchMill other = new SearchMill();
        Check.typed(other, "cat").text(0);
        for (int i = 0; i < 12; i++) {
            other.add(i);
        }
        Check.typed(other, "mouse").text(1);
        Check.fails("8: full", Check.STATE, () -> other.add(12));
        other.flush();
        other.add(13);
        other.flush();
        Check.due("8: the draft stays when it throws", other.words(1, 1), 1);
    }

    static void delete() {
        SearchMill mill = new SearchMill();
        Check.fails("9: key -1", Check.INDEX, () -> mill.delete(-1));
        Check.fails("9: key 100", Check.INDEX, () -> mill.delete(100));
        Check.due("9: nothing", mill.delete(0), false);
        mill.add(0);
        mill.add(1);
        Check.due("9: in the buffer", mill.delete(0), true);
        Check.due("9: gone", mill.delete(0), false);
        mill.flush();
        Check.due("9: it is not in the segment", mill.keyAt(0, 0), 1);
        Check.due("9: in a segment", mill.delete(1), true);
        Check.due("9: not live any more", mill.live(0), 0);
        Check.due("9: again", mill.delete(1), false);
        Check.due("9: it stays in it", mill.keyAt(0, 0), 1);
        mill.add(5);
        mill.crashAt(0);
        Check.due("9: crash", mill.flush(), SearchMill.DOWN);
        Check.fails("9: DOWN", Check.STATE, () -> mill.delete(5));
        Check.fails("9: DOWN and no such key", Check.INDEX, () -> mill.delete(100));
    }

    static void flush() {
        SearchMill mill = new SearchMill();
        Check.due("10: empty", mill.flush(), SearchMill.NONE);
        Check.due("10: no writes", mill.writes(), 0);
        mill.add(3);
        mill.add(4);
        Check.due("10: the first segment", mill.flush(), 0);
        Check.due("10: a write for each and one", mill.writes(), 3);
        Check.due("10: the buffer is empty", mill.flush(), SearchMill.NONE);
        mill.add(5);
        Check.due("10: the second segment", mill.flush(), 1);
        mill.add(6);
        mill.add(7);
        mill.crashAt(2);
        Check.due("10: crash at the last write", mill.flush(), SearchMill.DOWN);
        Check.due("10: two writes were done", mill.writes(), 7);
        Check.fails("10: DOWN", Check.STATE, () -> mill.flush());
        mill.open();
        mill.add(6);
        Check.due("10: no number was taken by the crash", mill.flush(), 2);
        Check.due("10: what was not committed is gone", mill.segments(), 1);
        mill.add(6);
        mill.crashAt(2);
        Check.due("10: a crash behind it", mill.flush(), 3);
        Check.due("10: it was written", mill.isDown(), false);
    }

    static void mostSegments() {
        SearchMill mill = new SearchMill();
        for (int i = 0; i < 200; i++) {
            mill.add(i % 100);
            Check.due("10: segment", mill.flush(), i);
        }
        Check.fails("10: 200 segments, an empty buffer", Check.STATE, () -> mill.flush());
        Check.fails("12: 200 segments", Check.STATE, () -> mill.merge());
        Check.due("15: an empty buffer", mill.prepare(), 200);
        mill.drop();
        mill.add(0);
        Check.fails("10: 200 segments", Check.STATE, () -> mill.flush());
        Check.fails("15: 200 segments and a buffer", Check.STATE, () -> mill.prepare());
        Check.due("10: nothing was changed", mill.delete(0), true);
        SearchMill other = Check.withSegments(1, 1, 1);
        other.merge();
        for (int i = 3; i < 200; i++) {
            other.add(50);
            other.flush();
        }
        for (int i = 0; i < 3; i++) {
            other.step();
        }
        Check.due("13: a merge under way ends", other.step(), SearchMill.NONE);
        Check.due("13: with the number 200", other.segmentAt(0), 200);
    }

    static void due() {
        SearchMill mill = Check.withSegments(3, 1, 2);
        Check.due("11: none", mill.due(), SearchMill.NONE);
        mill.add(50);
        mill.flush();
        Check.due("11: 1, 2 and 1 are of one tier", mill.due(), 1);
        Check.due("11: 3, 8, 4 are of one tier", Check.withSegments(3, 8, 4).due(), 0);
        Check.due("11: 8, 9, 8 are not", Check.withSegments(8, 9, 8).due(), SearchMill.NONE);
        Check.due("11: 2, 3, 2 are not", Check.withSegments(2, 3, 2).due(), SearchMill.NONE);
        Check.due("11: the lowest place", Check.withSegments(9, 1, 1, 1, 1).due(), 1);
        SearchMill other = Check.withSegments(1, 3, 3, 3);
        other.delete(1);
        other.delete(2);
        other.delete(3);
        Check.due("11: live or not", other.due(), 1);
        other.add(0);
        other.crashAt(0);
        other.flush();
        Check.fails("11: DOWN", Check.STATE, () -> other.due());
    }

    static void merge() {
        SearchMill mill = Check.withSegments(1, 1);
        Check.fails("12: none is due", Check.STATE, () -> mill.merge());
        mill.add(40);
        mill.add(41);
        mill.flush();
        mill.delete(40);
        Check.due("12: those that are live", mill.merge(), 3);
        Check.due("12: no write", mill.writes(), 7);
        Check.fails("12: one is under way", Check.STATE, () -> mill.merge());
        Check.due("12: nothing was copied yet", mill.files(), 3);
        mill.add(1);
        mill.crashAt(0);
        mill.flush();
        Check.fails("12: DOWN", Check.STATE, () -> mill.merge());
        mill.open();
        Check.fails("12: the merge is gone", Check.STATE, () -> mill.step());
    }

    static void step() {
        SearchMill mill = new SearchMill();
        Check.fails("13: none is under way", Check.STATE, () -> mill.step());
        Check.added(mill, 9, "zebra");
        Check.added(mill, 8, "cat");
        mill.flush();
        Check.added(mill, 7, "cat dog");
        mill.flush();
        Check.added(mill, 6, "ape");
        mill.flush();
        mill.merge();
        int writes = mill.writes();
        Check.due("13: the first", mill.step(), 3);
        Check.due("13: a file for it", mill.files(), 4);
        mill.step();
        mill.step();
        Check.due("13: the last", mill.step(), 0);
        Check.due("13: the sources are still there", mill.segments(), 3);
        mill.add(5);
        mill.flush();
        Check.due("13: the end", mill.step(), SearchMill.NONE);
        Check.due("13: a write for each step", mill.writes() - writes, 7);
        Check.due("13: in place of the sources", mill.segments(), 2);
        Check.due("13: its number comes at the end", mill.segmentAt(0), 4);
        Check.due("13: the one that came in between", mill.segmentAt(1), 3);
        Check.due("13: in the order of the index", mill.keyAt(0, 0), 9);
        Check.due("13: the second", mill.keyAt(0, 1), 8);
        Check.due("13: the third", mill.keyAt(0, 2), 7);
        Check.due("13: its words", mill.words(0, 0), 4);
        Check.due("13: the first word", mill.signAt(0, 0, 0, 0), 'a');
        Check.due("13: files", mill.files(), 2);
        Check.fails("13: it has ended", Check.STATE, () -> mill.step());
    }

    static void stepWithDeletions() {
        SearchMill mill = Check.withSegments(3, 3, 3);
        mill.delete(1);
        mill.merge();
        mill.delete(4);
        mill.add(8);
        for (int i = 8; i > 0; i--) {
            Check.due("13: what was live at the beginning is copied", mill.step(), i - 1);
        }
        Check.due("13: the end", mill.step(), SearchMill.NONE);
        Check.due("13: a document that was deleted in between is in it", mill.keyAt(0, 3), 4);
        Check.due("13: but not live", mill.live(0), 6);
        Check.fails("13: the one deleted ahead is not in it", Check.INDEX, () -> mill.keyAt(0, 8));
        Check.due("13: the new one is in the buffer", mill.delete(8), true);
        Check.due("13: and not in the segment", mill.delete(8), false);
        SearchMill other = Check.withSegments(1, 1, 1);
        other.merge();
        other.step();
        other.crashAt(0);
        Check.due("13: DOWN", other.step(), SearchMill.DOWN);
        Check.fails("13: is DOWN", Check.STATE, () -> other.step());
        other.open();
        Check.fails("13: the merge is gone", Check.STATE, () -> other.step());
        SearchMill third = Check.withSegments(1, 1, 1);
        third.merge();
        third.crashAt(3);
        third.step();
        third.step();
        third.step();
        Check.due("13: DOWN at the end", third.step(), SearchMill.DOWN);
        third.open();
        third.add(1);
        Check.due("13: no number was taken", third.flush(), 3);
    }

    static void emptyMerge() {
        SearchMill mill = Check.withSegments(1, 1, 1, 3);
        mill.delete(0);
        mill.delete(1);
        mill.delete(2);
        int writes = mill.writes();
        Check.due("12: none is to be copied", mill.merge(), 0);
        Check.due("13: the next step ends it", mill.step(), SearchMill.NONE);
        Check.due("13: each step does a write", mill.writes() - writes, 1);
        Check.due("13: nothing comes", mill.segments(), 1);
        Check.due("13: the other one stays", mill.segmentAt(0), 3);
        mill.add(50);
        Check.due("13: no number was taken", mill.flush(), 4);
    }

    static void giveUp() {
        SearchMill mill = Check.withSegments(1, 1, 1);
        Check.fails("14: none is under way", Check.STATE, () -> mill.giveUp());
        mill.merge();
        Check.due("14: nothing was copied", mill.giveUp(), 0);
        mill.merge();
        mill.step();
        mill.step();
        Check.due("14: two were copied", mill.giveUp(), 2);
        Check.due("14: the sources stay", mill.segments(), 3);
        Check.due("14: its file is gone", mill.files(), 3);
        Check.fails("14: it is given up", Check.STATE, () -> mill.giveUp());
        Check.due("14: begun anew", mill.merge(), 3);
        mill.crashAt(0);
        mill.step();
        Check.fails("14: DOWN", Check.STATE, () -> mill.giveUp());
    }
}
