/** Promises 15 to 22: commits in two steps, crashes, files and writes. */
public final class CommitPromises {
    public static void main(String[] args) {
        prepare();
        prepareCrashes();
        finish();
        drop();
        crashAt();
        open();
        whatStays();
        isDown();
        files();
        writes();
        Check.end();
    }

    static SearchMill withDocuments(int count) {
        SearchMill mill = new SearchMill();
        for (int i = 0; i < count; i++) {
            mill.add(i);
        }
        return mill;
    }

    static SearchMill committed(int count) {
        SearchMill mill = withDocuments(count);
        mill.prepare();
        mill.finish();
        return mill;
    }

    static void prepare() {
        SearchMill mill = withDocuments(2);
        mill.flush();
        mill.delete(0);
        mill.add(5);
        Check.due("15: it flushes first", mill.prepare(), 2);
        Check.due("15: 3 and 2 for the flushes, one for the changed segment, one for the commit", mill.writes(), 7);
        Check.fails("15: one is prepared", Check.STATE, () -> mill.prepare());
        mill.add(6);
        mill.delete(1);
        mill.finish();
        Check.due("15: what comes in between is not in it", mill.look(false), 0);
        Check.due("15: its documents", mill.documents(0), 2);
        int writes = mill.writes();
        Check.due("15: the next", mill.prepare(), 3);
        Check.due("15: 2 for the flush, one for the changed segment, one for the commit", mill.writes() - writes, 4);
        mill.finish();
        writes = mill.writes();
        mill.prepare();
        Check.due("15: nothing was changed", mill.writes() - writes, 1);
        SearchMill empty = new SearchMill();
        Check.due("15: an empty one", empty.prepare(), 0);
        Check.due("15: a write for the commit", empty.writes(), 1);
        Check.due("15: its file", empty.files(), 1);
    }

    static void prepareCrashes() {
        for (int writes = 0; writes < 4; writes++) {
            SearchMill mill = withDocuments(1);
            mill.flush();
            mill.delete(0);
            mill.add(1);
            mill.crashAt(writes);
            Check.due("15: crash at write " + writes, mill.prepare(), SearchMill.DOWN);
            Check.due("15: writes", mill.writes(), 2 + writes);
            Check.fails("15: DOWN", Check.STATE, () -> mill.prepare());
            Check.due("15: without a commit", mill.open(), 0);
            Check.fails("15: none is prepared", Check.STATE, () -> mill.finish());
            mill.add(9);
            Check.due("15: the numbers go on behind segments that were made", mill.flush(), writes < 2 ? 1 : 2);
        }
    }

    static void finish() {
        SearchMill mill = withDocuments(1);
        Check.fails("16: none is prepared", Check.STATE, () -> mill.finish());
        mill.prepare();
        Check.due("16: the first", mill.finish(), 1);
        Check.due("16: a write", mill.writes(), 4);
        Check.fails("16: it is finished", Check.STATE, () -> mill.finish());
        mill.prepare();
        Check.due("16: the second", mill.finish(), 2);
        mill.delete(0);
        mill.prepare();
        mill.crashAt(0);
        Check.due("16: crash", mill.finish(), SearchMill.DOWN);
        Check.fails("16: DOWN", Check.STATE, () -> mill.finish());
        Check.due("16: the last commit stays", mill.open(), 1);
        Check.due("16: as it was", mill.live(0), 1);
        Check.fails("16: what was prepared is gone", Check.STATE, () -> mill.finish());
        mill.prepare();
        Check.due("16: the count goes on", mill.finish(), 3);
    }

    static void drop() {
        SearchMill mill = withDocuments(2);
        Check.fails("17: none is prepared", Check.STATE, () -> mill.drop());
        mill.flush();
        mill.delete(0);
        mill.add(3);
        mill.prepare();
        Check.due("17: segments, deletions, the commit", mill.files(), 4);
        int writes = mill.writes();
        mill.drop();
        Check.due("17: no write", mill.writes(), writes);
        Check.due("17: the flush stays", mill.segments(), 2);
        Check.due("17: the other files are gone", mill.files(), 2);
        Check.fails("17: it is dropped", Check.STATE, () -> mill.drop());
        mill.prepare();
        Check.due("17: the deletions are written again", mill.writes() - writes, 2);
        mill.crashAt(0);
        mill.finish();
        Check.fails("17: DOWN", Check.STATE, () -> mill.drop());
        mill.open();
        Check.fails("17: gone", Check.STATE, () -> mill.drop());
    }

    static void crashAt() {
        SearchMill mill = withDocuments(2);
        Check.fails("18: -1", Check.ARGUMENT, () -> mill.crashAt(-1));
        Check.fails("18: 1001", Check.ARGUMENT, () -> mill.crashAt(1001));
        mill.crashAt(1000);
        mill.crashAt(0);
        mill.crashAt(3);
        Check.due("18: three writes are done", mill.flush(), 0);
        Check.due("18: and the next is not", mill.prepare(), SearchMill.DOWN);
        Check.fails("18: DOWN", Check.STATE, () -> mill.crashAt(1));
        Check.fails("18: DOWN and out of range", Check.ARGUMENT, () -> mill.crashAt(1001));
        mill.open();
        Check.due("18: it comes once", mill.prepare(), 0);
        Check.due("18: and not again", mill.finish(), 1);
        mill.crashAt(0);
        Check.due("18: nothing is written without a document", mill.flush(), SearchMill.NONE);
        Check.due("18: it is still told", mill.prepare(), SearchMill.DOWN);
    }

    static void open() {
        SearchMill mill = committed(3);
        Check.fails("19: it is not DOWN", Check.STATE, () -> mill.open());
        mill.delete(0);
        mill.prepare();
        mill.finish();
        mill.delete(1);
        mill.add(7);
        mill.flush();
        mill.add(8);
        mill.crashAt(0);
        mill.flush();
        Check.due("19: what the commit names", mill.open(), 1);
        Check.fails("19: it is open", Check.STATE, () -> mill.open());
        Check.due("19: with the documents live that it names", mill.live(0), 2);
        Check.due("19: files", mill.files(), 3);
        Check.due("19: 1 is live again", mill.delete(1), true);
        Check.due("19: 0 is not", mill.delete(0), false);
        Check.due("19: 7 is gone", mill.delete(7), false);
        int writes = mill.writes();
        mill.prepare();
        Check.due("19: other documents than the commit tells", mill.writes() - writes, 2);
        mill.crashAt(0);
        mill.finish();
        mill.open();
        writes = mill.writes();
        mill.prepare();
        Check.due("19: the same as the commit tells", mill.writes() - writes, 1);
        mill.crashAt(5);
        mill.drop();
        mill.crashAt(0);
        mill.prepare();
        mill.open();
        Check.due("19: no crash is told then", mill.prepare(), 1);
    }

    static void whatStays() {
        SearchMill mill = new SearchMill();
        Check.typed(mill, "the").stop();
        Check.typed(mill, "dog hound").synonym();
        mill.weigh(0, 7);
        Check.termQuery(mill, 0, "hound");
        Check.typed(mill, "cat").term(0);
        Check.added(mill, 1, "the dog");
        Check.typed(mill, "the hound").text(0);
        mill.columns(4, 44);
        Check.typed(mill, "pad");
        mill.flush();
        mill.look(true);
        mill.find(0, 0, 1);
        mill.find(0, 0, 1);
        Check.due("19: found", mill.cached(), 1);
        mill.crashAt(0);
        mill.prepare();
        Check.due("19: what was found is gone", mill.cached(), 0);
        Check.fails("19: the hits are gone", Check.INDEX, () -> mill.hitAt(0));
        Check.fails("19: snapshots are gone", Check.INDEX, () -> mill.documents(0));
        Check.fails("19: no place while it is DOWN", Check.INDEX, () -> mill.segmentAt(0));
        Check.due("19: the pad stays", mill.wipe(), 3);
        Check.due("19: typing goes on", mill.type('x'), 1);
        mill.wipe();
        Check.due("19: without a commit it is empty", mill.open(), 0);
        Check.due("19: the draft stays", mill.add(2), 1);
        Check.due("19: numbers of segments stay", mill.flush(), 1);
        Check.due("19: numbers of snapshots stay", mill.look(true), 1);
        Check.due("19: queries stay", mill.find(1, 0, 5), 1);
        Check.due("19: the cache is gone", mill.cached(), 0);
        Check.due("19: columns stay", mill.facet(1, 0, 4), 1);
        Check.due("19: weights stay", mill.weigh(0, 1), 7);
        Check.due("19: parts stay", mill.scrap(), 1);
        Check.typed(mill, "x");
        Check.fails("19: a document was added", Check.STATE, () -> mill.stop());
    }

    static void isDown() {
        SearchMill mill = withDocuments(1);
        mill.crashAt(1);
        Check.due("20: not yet", mill.isDown(), false);
        mill.flush();
        Check.due("20: DOWN", mill.isDown(), true);
        mill.open();
        Check.due("20: open", mill.isDown(), false);
    }

    static void files() {
        SearchMill mill = committed(2);
        Check.due("21: a segment and a commit", mill.files(), 2);
        mill.delete(0);
        Check.due("21: deletions are not written yet", mill.files(), 2);
        mill.prepare();
        Check.due("21: deletions and the prepared commit", mill.files(), 4);
        mill.finish();
        Check.due("21: deletions and the commit", mill.files(), 3);
        mill.prepare();
        Check.due("21: both name the same", mill.files(), 4);
        mill.drop();
        mill.delete(1);
        mill.prepare();
        Check.due("21: both name other ones", mill.files(), 5);
        mill.finish();
        for (int i = 10; i < 12; i++) {
            mill.add(i);
            mill.flush();
        }
        mill.look(true);
        mill.merge();
        Check.due("21: three segments, deletions, the commit", mill.files(), 5);
        mill.step();
        Check.due("21: and what is copied", mill.files(), 6);
        mill.step();
        mill.step();
        Check.due("21: the merged one, the sources for the snapshot and the commit", mill.files(), 6);
        Check.due("21: without the snapshot", mill.shut(0), 4);
        mill.prepare();
        Check.due("21: the prepared one names the merged one", mill.files(), 5);
        mill.finish();
        Check.due("21: the merged one and its commit", mill.files(), 2);
        mill.crashAt(0);
        mill.prepare();
        Check.fails("21: DOWN", Check.STATE, () -> mill.files());
    }

    static void writes() {
        SearchMill mill = withDocuments(12);
        Check.due("22: none", mill.writes(), 0);
        mill.flush();
        Check.due("22: twelve and one", mill.writes(), 13);
        mill.crashAt(0);
        mill.prepare();
        Check.due("22: the crash is no write, and it answers while DOWN", mill.writes(), 13);
        mill.open();
        Check.due("22: opening is no write", mill.writes(), 13);
    }
}
