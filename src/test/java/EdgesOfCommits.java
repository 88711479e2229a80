import java.util.function.Consumer;
import java.util.function.Supplier;

/** The edges that the document names under "Writes, files, commits" and in the promises 15 to 22. */
public final class EdgesOfCommits {
    public static void main(String[] args) {
        emptyCommit();
        writesOfPrepare();
        lastWritten();
        mergedIsLastWrittenAsAll();
        crashAtEachWriteOfPrepare();
        prepareAt200Segments();
        prepareRefused();
        whatComesInBetween();
        lastCommitUntilFinished();
        finishes();
        finishRefused();
        dropTakesAllBack();
        dropRefused();
        crashesFrom0To1000();
        crashAtRefused();
        crashInPlaceOfAnotherOne();
        openRefused();
        goneInACrash();
        opensTheLastCommit();
        lastWrittenAfterACrash();
        stays();
        callsWhileDown();
        filesOfSegments();
        filesOfDeletions();
        filesOfMerges();
        filesOfTwoCommits();
        filesRefused();
        writesAlways();
        Check.end();
    }

    static SearchMill committed(int... sizes) {
        SearchMill mill = Check.withSegments(sizes);
        mill.prepare();
        mill.finish();
        return mill;
    }

    static int writesOf(SearchMill mill, Consumer<SearchMill> call) {
        int before = mill.writes();
        call.accept(mill);
        return mill.writes() - before;
    }

    static void emptyCommit() {
        SearchMill mill = new SearchMill();
        Check.due("15: of no segments", mill.prepare(), 0);
        Check.due("22: one write for the commit", mill.writes(), 1);
        Check.due("16: finished", mill.finish(), 1);
        Check.due("22: one write more", mill.writes(), 2);
        Check.due("21: one file for the last commit", mill.files(), 1);
        mill.add(1);
        mill.flush();
        Check.crashed(mill);
        Check.due("19: a commit that names nothing", mill.open(), 0);
        Check.due("21: its file", mill.files(), 1);
    }

    static void writesOfPrepare() {
        SearchMill mill = Check.withSegments(1, 2, 3, 4);
        Check.due("15: nothing to flush, all live: one for the commit", writesOf(mill, SearchMill::prepare), 1);
        mill.finish();
        mill.delete(0);
        mill.delete(3);
        mill.delete(4);
        mill.add(50);
        Check.due("15: two for the flush, one for each of two segments, one for the commit",
            writesOf(mill, SearchMill::prepare), 5);
        Check.due("16: one write", writesOf(mill, SearchMill::finish), 1);
        Check.due("15: they were written: one for the commit", writesOf(mill, SearchMill::prepare), 1);
        mill.finish();
        mill.delete(5);
        Check.due("15: other ones in a segment that was written", writesOf(mill, SearchMill::prepare), 2);
        mill.finish();
        for (int key = 1; key < 3; key++) {
            mill.delete(key);
        }
        mill.add(50);
        Check.due("15: all of segment 1 and of the new one before, and a flush", writesOf(mill, SearchMill::prepare), 5);
        SearchMill one = new SearchMill();
        one.add(1);
        one.delete(1);
        Check.due("15: with an empty buffer nothing is flushed", writesOf(one, SearchMill::prepare), 1);
        SearchMill same = Check.withSegments(1);
        same.add(0);
        Check.due("15: it names both", same.prepare(), 2);
        Check.due("15: 2, 2, one for the older one, one for the commit", same.writes(), 6);
    }

    static void lastWritten() {
        SearchMill mill = committed(3);
        mill.delete(0);
        mill.prepare();
        Check.due("16: it is written", mill.finish(), 2);
        mill.delete(1);
        mill.prepare();
        mill.drop();
        Check.due("17: taken back: written again", writesOf(mill, SearchMill::prepare), 2);
        mill.drop();
        Check.due("17: and once more", writesOf(mill, SearchMill::prepare), 2);
        mill.finish();
        Check.due("15: now it was", writesOf(mill, SearchMill::prepare), 1);
        SearchMill other = Check.withSegments(2);
        other.delete(0);
        Check.due("15: without a commit: all live at first", writesOf(other, SearchMill::prepare), 2);
        other.drop();
        Check.due("15: and again", writesOf(other, SearchMill::prepare), 2);
    }

    static void mergedIsLastWrittenAsAll() {
        SearchMill mill = committed(1, 1, 1);
        mill.merge();
        mill.delete(0);
        for (int i = 0; i < 4; i++) {
            mill.step();
        }
        Check.due("15: a merged one that was not all live", writesOf(mill, SearchMill::prepare), 2);
        mill.finish();
        Check.due("15: it was written", writesOf(mill, SearchMill::prepare), 1);
        SearchMill other = committed(1, 1, 1);
        other.delete(0);
        Check.merged(other);
        Check.due("15: a merged one of which all are live", writesOf(other, SearchMill::prepare), 1);
        SearchMill third = committed(1, 1, 1);
        third.delete(1);
        third.prepare();
        Check.merged(third);
        Check.due("16: the sources are named by it", third.finish(), 2);
        Check.due("15: the merged one is all live", writesOf(third, SearchMill::prepare), 1);
    }

    /** Documents in the buffer, and one deleted in each of two segments: 3, 2 and 1 writes. */
    static SearchMill dirty() {
        SearchMill mill = committed(2, 2);
        mill.delete(0);
        mill.delete(2);
        mill.add(50);
        mill.add(51);
        return mill;
    }

    static void crashAtEachWriteOfPrepare() {
        for (int writes = 0; writes <= 6; writes++) {
            SearchMill mill = dirty();
            int before = mill.writes();
            mill.crashAt(writes);
            Check.due("15: " + writes + " writes ahead of the crash", mill.prepare(), writes < 6 ? SearchMill.DOWN : 3);
            Check.due("22: so many were done", mill.writes(), before + writes);
            Check.due("20: DOWN", mill.isDown(), writes < 6);
            if (writes < 6) {
                Check.due("19: what the last commit names", mill.open(), 2);
                Check.due("19: with the documents that it names as live", mill.live(0), 2);
                Check.fails("16: what was prepared is gone", Check.STATE, () -> mill.finish());
                Check.due("21: so are its files", mill.files(), 3);
                mill.add(9);
                Check.due("10: whether the flush was done", mill.flush(), writes < 3 ? 2 : 3);
            } else {
                Check.due("16: the next write", mill.finish(), SearchMill.DOWN);
            }
        }
    }

    static void prepareAt200Segments() {
        SearchMill mill = Check.made(199);
        mill.add(99);
        Check.due("15: 199 were made, the flush makes the 200th", mill.prepare(), 200);
        mill.drop();
        Check.due("15: 200 were made, the buffer is empty", mill.prepare(), 200);
        mill.finish();
        mill.add(0);
        Check.fails("15: 200 were made, and the buffer is not empty", Check.STATE, () -> mill.prepare());
        mill.delete(0);
        Check.due("15: it is empty again", mill.prepare(), 200);
        Check.refused("15: 200 were made", Check.STATE, () -> {
            SearchMill full = Check.made(200);
            full.add(3);
            return full;
        }, SearchMill::prepare);
    }

    static void prepareRefused() {
        Check.refused("15: one is prepared", Check.STATE, () -> {
            SearchMill mill = dirty();
            mill.prepare();
            mill.add(60);
            return mill;
        }, SearchMill::prepare);
        Check.refused("15: DOWN", Check.STATE, () -> Check.crashed(committed(1)), SearchMill::prepare);
        SearchMill mill = dirty();
        mill.prepare();
        Check.fails("15: one at a time", Check.STATE, () -> mill.prepare());
        mill.finish();
        Check.due("15: finished, so the next one", mill.prepare(), 3);
        mill.drop();
        Check.due("15: dropped, so the next one", mill.prepare(), 3);
    }

    static void whatComesInBetween() {
        SearchMill mill = committed(2, 1, 1);
        mill.delete(0);
        mill.prepare();
        mill.delete(1);
        mill.add(2);
        mill.flush();
        Check.due("12: one is live and to be copied", Check.merged(mill), 1);
        mill.finish();
        mill.look(false);
        Check.due("35: what comes in between is not in it", mill.documents(0), 3);
        Check.due("35: but in the index", mill.look(true) + mill.documents(1), 3);
        Check.crashed(mill);
        Check.due("19: three segments", mill.open(), 3);
        Check.due("25: 1 is live", mill.live(0), 1);
        Check.due("9: 1 is live", mill.delete(1), true);
        Check.due("9: 0 is not", mill.delete(0), false);
        Check.due("9: 2 is live, the one in its segment", mill.live(1), 1);
    }

    static void lastCommitUntilFinished() {
        SearchMill mill = committed(2);
        mill.delete(0);
        mill.add(7);
        mill.prepare();
        mill.look(false);
        Check.due("33: the last commit is the one ahead of it", mill.documents(0), 2);
        Check.crashed(mill);
        Check.due("19: not finished", mill.open(), 1);
        Check.due("25: both are live", mill.live(0), 2);
        mill.delete(0);
        mill.add(7);
        mill.prepare();
        mill.finish();
        mill.look(false);
        Check.due("33: from then on it is the last commit", mill.documents(1), 2);
        Check.crashed(mill);
        Check.due("19: finished", mill.open(), 2);
        Check.due("25: one is live", mill.live(0), 1);
    }

    static void finishes() {
        SearchMill mill = new SearchMill();
        for (int i = 1; i <= 3; i++) {
            mill.prepare();
            Check.due("16: how many commits were finished then", mill.finish(), i);
        }
        mill.prepare();
        mill.drop();
        mill.prepare();
        Check.due("16: a dropped one is not counted", mill.finish(), 4);
        mill.prepare();
        mill.crashAt(0);
        Check.due("16: in place of the write", mill.finish(), SearchMill.DOWN);
        mill.open();
        mill.prepare();
        mill.crashAt(1);
        Check.due("16: a write ahead of the crash; a crashed one is not counted", mill.finish(), 5);
        Check.due("20: not DOWN", mill.isDown(), false);
    }

    static void finishRefused() {
        Check.refused("16: none is prepared", Check.STATE, EdgesOfCommits::dirty, SearchMill::finish);
        Check.refused("16: it is finished", Check.STATE, () -> committed(2), SearchMill::finish);
        Check.refused("16: it is dropped", Check.STATE, () -> {
            SearchMill mill = dirty();
            mill.prepare();
            mill.drop();
            return mill;
        }, SearchMill::finish);
        Check.refused("16: none is prepared, so no crash comes", Check.STATE, () -> {
            SearchMill mill = committed(2);
            mill.crashAt(0);
            return mill;
        }, SearchMill::finish);
        Check.refused("16: DOWN", Check.STATE, () -> Check.crashed(dirty()), SearchMill::finish);
    }

    static void dropTakesAllBack() {
        SearchMill mill = dirty();
        int files = mill.files();
        mill.prepare();
        Check.due("21: a segment, two for deletions, the prepared one", mill.files(), files + 4);
        Check.due("17: no write", writesOf(mill, SearchMill::drop), 0);
        Check.due("21: all is taken back but for the flush", mill.files(), files + 1);
        Check.due("23: the flush stays", mill.segments(), 3);
        Check.due("10: the buffer is empty", mill.flush(), SearchMill.NONE);
        Check.due("25: deletions stay in the index", mill.live(0), 1);
        Check.due("15: its segments are written again", writesOf(mill, SearchMill::prepare), 3);
        mill.drop();
        Check.crashed(mill);
        Check.due("19: the commit ahead of it", mill.open(), 2);
        Check.due("25: as it names them", mill.live(0), 2);
    }

    static void dropRefused() {
        Check.refused("17: none is prepared", Check.STATE, EdgesOfCommits::dirty, SearchMill::drop);
        Check.refused("17: it is finished", Check.STATE, () -> committed(2), SearchMill::drop);
        Check.refused("17: it is dropped", Check.STATE, () -> {
            SearchMill mill = dirty();
            mill.prepare();
            mill.drop();
            return mill;
        }, SearchMill::drop);
        Check.refused("17: DOWN", Check.STATE, () -> {
            SearchMill mill = dirty();
            mill.prepare();
            return Check.crashed(mill);
        }, SearchMill::drop);
    }

    /** 40 segments of which a document is deleted in each, so that to prepare is to do 41 writes. */
    static SearchMill dirtyEverywhere() {
        SearchMill mill = new SearchMill();
        for (int i = 0; i < 40; i++) {
            mill.add(2 * i);
            mill.add(2 * i + 1);
            mill.flush();
        }
        for (int i = 0; i < 40; i++) {
            mill.delete(2 * i);
        }
        return mill;
    }

    static void crashesFrom0To1000() {
        SearchMill mill = dirtyEverywhere();
        int before = mill.writes();
        mill.crashAt(1000);
        for (int i = 0; i < 24; i++) {
            Check.due("15: 41 writes", mill.prepare(), 40);
            mill.drop();
        }
        Check.due("22: 984 of the thousand", mill.writes() - before, 984);
        Check.due("15: the crash", mill.prepare(), SearchMill.DOWN);
        Check.due("18: 1000 are done ahead of it", mill.writes() - before, 1000);
        SearchMill none = Check.withSegments(1);
        none.crashAt(0);
        Check.due("18: 0 are done ahead of it", none.prepare(), SearchMill.DOWN);
        Check.due("22: none was done", none.writes(), 2);
        SearchMill one = Check.withSegments(1);
        one.crashAt(1);
        Check.due("18: one is done ahead of it", one.prepare(), 1);
        Check.due("16: the second is not", one.finish(), SearchMill.DOWN);
        Check.due("22: one was done", one.writes(), 3);
    }

    static void crashAtRefused() {
        for (int writes : new int[] {-1, 1001, Integer.MIN_VALUE, Integer.MAX_VALUE}) {
            Check.refused("18: out of range: " + writes, Check.ARGUMENT, EdgesOfCommits::dirty, mill -> mill.crashAt(writes));
            Check.refused("18: one told before stays: " + writes, Check.ARGUMENT, () -> {
                SearchMill mill = dirty();
                mill.crashAt(7);
                return mill;
            }, mill -> mill.crashAt(writes));
            Check.refused("18: out of range, and DOWN: " + writes, Check.ARGUMENT, () -> Check.crashed(dirty()),
                mill -> mill.crashAt(writes));
        }
        Check.refused("18: DOWN", Check.STATE, () -> Check.crashed(dirty()), mill -> mill.crashAt(0));
        SearchMill mill = Check.crashed(committed(1));
        Check.fails("18: DOWN", Check.STATE, () -> mill.crashAt(0));
        mill.open();
        Check.due("18: no crash is told", mill.prepare(), 1);
    }

    static void crashInPlaceOfAnotherOne() {
        SearchMill later = new SearchMill();
        later.crashAt(0);
        later.crashAt(2);
        Check.due("18: a later one in its place", later.prepare(), 0);
        Check.due("18: the second write", later.finish(), 1);
        Check.due("18: the third is not done", later.prepare(), SearchMill.DOWN);
        SearchMill earlier = new SearchMill();
        earlier.crashAt(1000);
        earlier.crashAt(1);
        Check.due("18: an earlier one in its place", earlier.prepare(), 0);
        Check.due("18: the second write is not done", earlier.finish(), SearchMill.DOWN);
        SearchMill counted = new SearchMill();
        counted.crashAt(1);
        counted.prepare();
        counted.crashAt(1);
        Check.due("18: counted from now on", counted.finish(), 1);
        Check.due("18: and then", counted.prepare(), SearchMill.DOWN);
    }

    static void openRefused() {
        Check.refused("19: it is not DOWN", Check.STATE, EdgesOfCommits::dirty, SearchMill::open);
        Check.refused("19: not yet", Check.STATE, () -> {
            SearchMill mill = dirty();
            mill.crashAt(0);
            return mill;
        }, SearchMill::open);
        Check.refused("19: opened already", Check.STATE, () -> {
            SearchMill mill = Check.crashed(dirty());
            mill.open();
            return mill;
        }, SearchMill::open);
    }

    static void goneInACrash() {
        SearchMill mill = new SearchMill();
        for (int key = 0; key < 3; key++) {
            Check.added(mill, key, "a");
            mill.flush();
        }
        mill.prepare();
        mill.finish();
        Check.termQuery(mill, 0, "a");
        mill.look(true);
        mill.look(false);
        mill.find(0, 0, 1);
        mill.find(0, 0, 1);
        Check.due("50: a block was skipped", mill.skipped(), 2);
        Check.due("51: taken from the cache", mill.cached(), 3);
        mill.merge();
        mill.step();
        mill.prepare();
        mill.add(9);
        Check.crashed(mill);
        Check.fails("48: what was found last is gone", Check.INDEX, () -> mill.hitAt(0));
        Check.fails("49: what was found last is gone", Check.INDEX, () -> mill.rankAt(0));
        Check.due("50: 0 if that is gone", mill.skipped(), 0);
        Check.due("51: 0 if that is gone", mill.cached(), 0);
        Check.fails("35: snapshots are gone", Check.INDEX, () -> mill.documents(0));
        Check.fails("34: snapshots of commits, too", Check.INDEX, () -> mill.shut(1));
        mill.open();
        Check.fails("35: also when it is opened", Check.INDEX, () -> mill.documents(1));
        Check.fails("48: also when it is opened", Check.INDEX, () -> mill.hitAt(0));
        Check.fails("14: the merge is gone", Check.STATE, () -> mill.giveUp());
        Check.fails("17: what was prepared is gone", Check.STATE, () -> mill.drop());
        Check.due("10: the buffer is gone", mill.flush(), SearchMill.NONE);
        Check.due("21: three segments and a commit", mill.files(), 4);
        mill.look(true);
        mill.find(2, 0, 1);
        Check.due("51: the cache is gone", mill.cached(), 0);
        for (int i = 0; i < 4; i++) {
            mill.look(true);
        }
        Check.fails("33: five are open, none from ahead of it", Check.STATE, () -> mill.look(true));
    }

    static void opensTheLastCommit() {
        SearchMill none = Check.withSegments(2, 2);
        Check.crashed(none);
        Check.due("19: without a commit it is empty", none.open(), 0);
        Check.due("21: no files", none.files(), 0);
        Check.due("33: nor has the last commit any", none.look(false) + none.documents(0), 0);
        SearchMill mill = committed(2, 2);
        mill.delete(0);
        mill.add(2);
        mill.flush();
        Check.crashed(mill);
        Check.due("19: two segments", mill.open(), 2);
        Check.due("23: two segments", mill.segments(), 2);
        Check.due("24: the first", mill.segmentAt(0), 0);
        Check.due("25: 0 and 1", mill.live(0), 2);
        Check.due("25: 2 and 3", mill.live(1), 2);
        Check.due("9: 0 is live again", mill.delete(0), true);
        Check.crashed(mill);
        Check.due("19: the same commit once more", mill.open(), 2);
        Check.due("25: a deletion behind it changed nothing in it", mill.live(0), 2);
        SearchMill merged = committed(1, 1, 1);
        Check.merged(merged);
        Check.crashed(merged);
        Check.due("19: the sources are named by it, the merged one is not", merged.open(), 3);
        merged.add(9);
        Check.due("10: its number was taken", merged.flush(), 4);
    }

    static void lastWrittenAfterACrash() {
        SearchMill mill = committed(3);
        mill.delete(0);
        mill.prepare();
        Check.crashed(mill);
        mill.open();
        Check.due("15: last written is what the last commit tells", writesOf(mill, SearchMill::prepare), 1);
        mill.finish();
        mill.delete(0);
        Check.due("15: other documents than it tells", writesOf(mill, SearchMill::prepare), 2);
        mill.finish();
        mill.delete(1);
        mill.prepare();
        Check.crashed(mill);
        mill.open();
        Check.due("25: two are live", mill.live(0), 2);
        Check.due("15: as it tells", writesOf(mill, SearchMill::prepare), 1);
    }

    static void stays() {
        SearchMill mill = new SearchMill();
        Check.typed(mill, "the").stop();
        Check.typed(mill, "dog hound").synonym();
        mill.weigh(0, 9);
        mill.weigh(1, 8);
        Check.termQuery(mill, 0, "hound");
        Check.typed(mill, "cat").term(0);
        Check.typed(mill, "ape").term(0);
        mill.add(50);
        mill.flush();
        mill.look(true);
        Check.typed(mill, "the dog").text(0);
        mill.columns(4, 44);
        Check.typed(mill, "pad sign");
        Check.crashed(mill);
        Check.due("19: parts stay", mill.least(2, 1), 1);
        Check.due("19: weights stay", mill.weigh(1, 7), 8);
        Check.due("19: the pad stays, and is a text while it is DOWN", mill.text(1), 2);
        mill.open();
        Check.due("19: the draft stays", mill.add(2), 1);
        Check.due("19: the numbers of segments stay", mill.flush(), 1);
        Check.due("19: the numbers of snapshots stay", mill.look(true), 1);
        Check.due("19: queries stay, and stop words and synonyms of the draft", mill.find(1, 0, 5), 1);
        Check.due("19: weights of fields", mill.rankAt(0), 9 * 32);
        Check.due("19: its columns", mill.facet(1, 0, 4), 1);
        Check.due("19: its other text", mill.words(0, 1), 2);
        Check.due("19: the number of queries stays", mill.query(), 1);
        Check.due("19: stop words stay", Check.typed(mill, "the dog").text(0), 2);
        Check.typed(mill, "the");
        Check.fails("19: stop words stay for queries", Check.STATE, () -> mill.term(0));
    }

    static void callsWhileDown() {
        SearchMill mill = Check.crashed(committed(1));
        Check.due("20: DOWN", mill.isDown(), true);
        Check.due("2: type", mill.type('a'), 1);
        Check.due("36: term", mill.term(0), 1);
        Check.due("44: query", mill.query(), 0);
        Check.due("2: type", Check.typed(mill, "b").wipe(), 1);
        Check.due("39: prefix", Check.typed(mill, "b").prefix(1), 1);
        Check.due("45: scrap", mill.scrap(), 1);
        Check.due("46: weigh", mill.weigh(0, 4), 3);
        mill.columns(1, 1);
        Check.due("6: text", mill.text(0), 0);
        Check.due("50: skipped", mill.skipped(), 0);
        Check.due("51: cached", mill.cached(), 0);
        Check.due("22: writes", mill.writes(), 4);
        Check.fails("47: no snapshot is open", Check.INDEX, () -> mill.find(0, 0, 1));
        Check.fails("53: no snapshot is open", Check.INDEX, () -> mill.matches(0, 0));
        Check.fails("21: files", Check.STATE, () -> mill.files());
        Check.fails("23: segments", Check.STATE, () -> mill.segments());
        Check.fails("33: look", Check.STATE, () -> mill.look(false));
    }

    static void filesOfSegments() {
        SearchMill mill = new SearchMill();
        Check.due("21: none at first", mill.files(), 0);
        mill.add(0);
        Check.due("21: the buffer is no file", mill.files(), 0);
        mill.flush();
        Check.due("21: one for each segment of the index", mill.files(), 1);
        mill.look(true);
        mill.look(true);
        Check.due("21: each once, for all snapshots", mill.files(), 1);
        mill.prepare();
        Check.due("21: and for the prepared one, which has one of its own", mill.files(), 2);
        mill.finish();
        Check.due("21: and for the last commit", mill.files(), 2);
        mill.prepare();
        Check.due("21: for both commits", mill.files(), 3);
    }

    static void filesOfDeletions() {
        SearchMill mill = committed(2, 2);
        mill.delete(0);
        mill.look(true);
        Check.due("21: deletions of the index and of snapshots are no files", mill.files(), 3);
        mill.prepare();
        Check.due("21: those that the prepared one names", mill.files(), 5);
        mill.delete(2);
        Check.due("21: not those that came behind it", mill.files(), 5);
        mill.finish();
        Check.due("21: those that the last commit names", mill.files(), 4);
        mill.prepare();
        Check.due("21: the second segment, too, and the prepared one", mill.files(), 6);
    }

    static void filesOfTwoCommits() {
        SearchMill mill = committed(3, 3);
        mill.delete(0);
        mill.prepare();
        mill.finish();
        Check.due("21: two segments, deletions, the commit", mill.files(), 4);
        mill.prepare();
        Check.due("21: both name the same: one alone", mill.files(), 5);
        mill.drop();
        mill.delete(1);
        mill.prepare();
        Check.due("21: they name other ones: two", mill.files(), 6);
        mill.drop();
        mill.delete(3);
        mill.prepare();
        Check.due("21: two for one segment, one for the other", mill.files(), 7);
        mill.finish();
        Check.due("21: one for each segment", mill.files(), 5);
        SearchMill merged = committed(1, 1, 1);
        merged.delete(0);
        merged.prepare();
        merged.finish();
        Check.merged(merged);
        Check.due("21: three segments and deletions of the commit, the merged one", merged.files(), 6);
        merged.prepare();
        Check.due("21: the prepared one names the merged one alone", merged.files(), 7);
        merged.add(1);
        Check.due("21: as it is, all live", merged.files(), 7);
        merged.finish();
        Check.due("21: the merged one and its commit", merged.files(), 2);
        SearchMill named = Check.withSegments(1, 1, 1);
        named.prepare();
        Check.merged(named);
        Check.due("21: segments that the prepared one alone names", named.files(), 5);
        named.drop();
        Check.due("21: dropped", named.files(), 1);
    }

    static void filesOfMerges() {
        SearchMill mill = Check.withSegments(1, 1, 1);
        mill.merge();
        Check.due("21: a merge that has copied nothing", mill.files(), 3);
        mill.step();
        Check.due("21: a merge that has copied something", mill.files(), 4);
        mill.step();
        mill.step();
        Check.due("21: all", mill.files(), 4);
        mill.step();
        Check.due("21: its file is that of the segment", mill.files(), 1);
        SearchMill other = Check.withSegments(1, 1, 1);
        other.merge();
        other.step();
        other.giveUp();
        Check.due("21: given up", other.files(), 3);
        other.merge();
        Check.due("21: begun anew, nothing is copied", other.files(), 3);
        SearchMill kept = Check.withSegments(1, 1, 1);
        kept.look(true);
        Check.merged(kept);
        Check.due("21: segments of open snapshots", kept.files(), 4);
        kept.look(true);
        Check.due("34: the sources go with their snapshot", kept.shut(0), 1);
        Check.due("34: the other one's is in the index", kept.shut(1), 1);
    }

    static void filesRefused() {
        Supplier<SearchMill> down = () -> Check.crashed(dirty());
        Check.refused("21: DOWN", Check.STATE, down, SearchMill::files);
        Check.unchanged("21: a question changes nothing", EdgesOfCommits::dirty, SearchMill::files);
        Check.unchanged("20: a question changes nothing", EdgesOfCommits::dirty, SearchMill::isDown);
        Check.unchanged("22: a question changes nothing", down, SearchMill::writes);
    }

    static void writesAlways() {
        SearchMill mill = new SearchMill();
        Check.due("22: none at first", mill.writes(), 0);
        mill.add(1);
        mill.delete(1);
        mill.add(2);
        Check.due("22: not for documents", mill.writes(), 0);
        mill.crashAt(1);
        mill.flush();
        Check.due("22: one ahead of the crash, also while it is DOWN", mill.writes(), 1);
        mill.open();
        Check.due("22: what was done stays done", mill.writes(), 1);
        mill.look(true);
        mill.shut(0);
        Check.due("22: not for snapshots", mill.writes(), 1);
    }
}
