/** The edges that the document names under "Segments, merging" and in the promises 11 to 14. */
public final class EdgesOfMerging {
    public static void main(String[] args) {
        tiersOfFlushes();
        tiersOfMerges();
        tierOf81();
        threeOfTheSameTier();
        lowestPlace();
        liveOrNot();
        dueAsksAlone();
        mergeRefused();
        oneAt199Segments();
        stepsToTheEnd();
        writesOfSteps();
        crashAtEachStep();
        deletedAheadOfTheMerge();
        deletedInBetween();
        addedInBetween();
        allDeletedInBetween();
        nothingToCopy();
        nothingToCopyButOthers();
        numberAtTheEnd();
        sourcesUntilTheEnd();
        wordsOfTheMergedOne();
        mergedAgain();
        giveUpAtAnyStep();
        stepAndGiveUpRefused();
        Check.end();
    }

    static int due(int... sizes) {
        return Check.withSegments(sizes).due();
    }

    static void tiersOfFlushes() {
        Check.due("tier: 1 and 2 documents", due(1, 2, 1), 0);
        Check.due("tier: 2 documents, and 3", due(2, 2, 3), SearchMill.NONE);
        Check.due("tier: 3 documents, and 2", due(3, 3, 2), SearchMill.NONE);
        Check.due("tier: 3 to 8 documents", due(3, 8, 5), 0);
        Check.due("tier: 8 documents, and 9", due(8, 8, 9), SearchMill.NONE);
        Check.due("tier: 9 documents, and 8", due(9, 9, 8), SearchMill.NONE);
        Check.due("tier: 9 to 12 documents", due(9, 12, 10), 0);
        Check.due("tier: 1, 3 and 9 documents", due(1, 3, 9), SearchMill.NONE);
    }

    /** A segment of so many documents, of 27 that three segments had, and behind it two more segments. */
    static SearchMill mergedTo(int documents, int second, int third) {
        SearchMill mill = Check.withSegments(9, 9, 9);
        for (int key = documents; key < 27; key++) {
            mill.delete(key);
        }
        Check.due("12: those that are live", Check.merged(mill), documents);
        for (int i = 0; i < second + third; i++) {
            mill.add(30 + i);
            if (i == second - 1 || i == second + third - 1) {
                mill.flush();
            }
        }
        Check.due("23: three", mill.segments(), 3);
        return mill;
    }

    static void tiersOfMerges() {
        Check.due("tier: 26 documents are of that of 9", mergedTo(26, 9, 12).due(), 0);
        Check.due("tier: 27 documents are not", mergedTo(27, 9, 12).due(), SearchMill.NONE);
        Check.due("tier: 9 documents of a merge", mergedTo(9, 9, 12).due(), 0);
        Check.due("tier: 8 documents of a merge", mergedTo(8, 3, 8).due(), 0);
        Check.due("tier: 3 documents of a merge", mergedTo(3, 3, 8).due(), 0);
        Check.due("tier: 2 documents of a merge", mergedTo(2, 1, 2).due(), 0);
        Check.due("tier: 2 documents of a merge, and 3", mergedTo(2, 3, 3).due(), SearchMill.NONE);
    }

    static void tierOf81() {
        SearchMill mill = new SearchMill();
        for (int key = 0; key < 81; key++) {
            Check.due("8: room", mill.add(key), key % 9 + 1);
            if (key % 9 == 8) {
                mill.flush();
            }
        }
        for (int i = 0; i < 3; i++) {
            Check.due("11: the next three of 9", mill.due(), i);
            Check.due("12: 27", Check.merged(mill), 27);
        }
        Check.due("11: three of 27", mill.due(), 0);
        Check.due("12: all 81", Check.merged(mill), 81);
        Check.due("23: one segment", mill.segments(), 1);
        Check.due("25: 81 are live", mill.live(0), 81);
        Check.due("26: the last one", mill.keyAt(0, 80), 80);
        Check.fails("26: none behind it", Check.INDEX, () -> mill.keyAt(0, 81));
        Check.due("24: its number", mill.segmentAt(0), 12);
    }

    static void threeOfTheSameTier() {
        Check.due("11: no segments", new SearchMill().due(), SearchMill.NONE);
        Check.due("11: one segment", due(1), SearchMill.NONE);
        Check.due("11: two segments", due(1, 1), SearchMill.NONE);
        Check.due("11: three segments", due(1, 1, 1), 0);
        Check.due("11: the third is another", due(1, 1, 3), SearchMill.NONE);
        Check.due("11: the second is another", due(1, 3, 1), SearchMill.NONE);
        Check.due("11: the first is another", due(3, 1, 1), SearchMill.NONE);
        Check.due("11: one between them", due(1, 1, 3, 1, 1), SearchMill.NONE);
        Check.due("11: the last three", due(1, 3, 1, 1, 1), 2);
        Check.due("11: the last three, behind two", due(1, 1, 3, 3, 3), 2);
    }

    static void lowestPlace() {
        Check.due("11: the lowest of two", due(3, 1, 1, 1, 1), 1);
        Check.due("11: the lowest of two tiers", due(3, 3, 3, 1, 1, 1), 0);
        SearchMill mill = Check.withSegments(3, 3, 3, 1, 1, 1);
        Check.due("12: the merge is begun there", mill.merge(), 9);
    }

    static void liveOrNot() {
        SearchMill mill = Check.withSegments(3, 3, 3);
        for (int key = 0; key < 9; key++) {
            mill.delete(key);
        }
        Check.due("11: no document is live", mill.due(), 0);
        SearchMill other = Check.withSegments(3, 1, 1);
        other.delete(0);
        Check.due("11: the tier is of all documents", other.due(), SearchMill.NONE);
    }

    static void dueAsksAlone() {
        Check.unchanged("11: a question changes nothing", () -> Check.withSegments(1, 1, 1), SearchMill::due);
        SearchMill mill = Check.withSegments(1, 1, 1);
        mill.merge();
        mill.step();
        Check.due("11: the sources are still in the index", mill.due(), 0);
        Check.crashed(mill);
        Check.fails("11: DOWN", Check.STATE, () -> mill.due());
    }

    static void mergeRefused() {
        Check.refused("12: none is due", Check.STATE, () -> Check.withSegments(1, 1), SearchMill::merge);
        Check.refused("12: no segments", Check.STATE, SearchMill::new, SearchMill::merge);
        Check.refused("12: one is under way", Check.STATE, () -> {
            SearchMill mill = Check.withSegments(1, 1, 1, 3, 3, 3);
            mill.merge();
            mill.step();
            return mill;
        }, SearchMill::merge);
        Check.refused("12: DOWN", Check.STATE, () -> {
            SearchMill mill = Check.withSegments(1, 1, 1);
            mill.prepare();
            mill.finish();
            return Check.crashed(mill);
        }, SearchMill::merge);
        Check.refused("12: 200 were made", Check.STATE, () -> Check.made(200), SearchMill::merge);
    }

    static void oneAt199Segments() {
        SearchMill mill = Check.made(199);
        mill.delete(0);
        Check.due("12: 199 were made", mill.merge(), 0);
        Check.due("13: it ends", mill.step(), SearchMill.NONE);
        mill.add(50);
        Check.due("10: the 200th", mill.flush(), 199);
        Check.fails("12: 200 were made", Check.STATE, () -> mill.merge());
        Check.due("11: though one is due", mill.due(), 0);
        SearchMill other = Check.made(198);
        for (int key = 0; key < 3; key++) {
            other.add(key);
        }
        other.flush();
        Check.due("12: at the 199th", other.merge(), 0);
        other.giveUp();
        Check.due("12: begun again, for nothing was made", other.merge(), 0);
        other.add(9);
        Check.due("10: the 200th in between", other.flush(), 199);
        Check.due("13: it ends", other.step(), SearchMill.NONE);
    }

    static void stepsToTheEnd() {
        SearchMill mill = Check.withSegments(1, 2, 1);
        Check.due("12: four are to be copied", mill.merge(), 4);
        for (int left = 3; left >= 0; left--) {
            Check.due("13: still to be copied", mill.step(), left);
            Check.due("23: the sources stay", mill.segments(), 3);
        }
        Check.due("13: the next step ends it", mill.step(), SearchMill.NONE);
        Check.due("23: one takes their place", mill.segments(), 1);
        for (int document = 0; document < 4; document++) {
            Check.due("26: in the order of the index", mill.keyAt(0, document), document);
        }
        Check.fails("13: none is under way then", Check.STATE, () -> mill.step());
        Check.fails("14: none is under way then", Check.STATE, () -> mill.giveUp());
    }

    static void writesOfSteps() {
        SearchMill mill = Check.withSegments(1, 1, 1);
        mill.merge();
        Check.due("22: to begin is no write", mill.writes(), 6);
        for (int step = 1; step <= 4; step++) {
            mill.step();
            Check.due("22: each step does a write", mill.writes(), 6 + step);
        }
    }

    static void crashAtEachStep() {
        for (int steps = 0; steps <= 4; steps++) {
            SearchMill mill = Check.withSegments(1, 1, 1);
            mill.prepare();
            mill.finish();
            int writes = mill.writes();
            mill.merge();
            mill.crashAt(steps);
            for (int step = 0; step < steps; step++) {
                Check.due("13: steps ahead of the crash", mill.step(), step == 3 ? SearchMill.NONE : 2 - step);
            }
            if (steps < 4) {
                Check.due("13: the crash, after " + steps, mill.step(), SearchMill.DOWN);
                Check.due("22: no write in place of it", mill.writes(), writes + steps);
                mill.open();
                Check.due("23: the sources, as the commit names them", mill.segments(), 3);
                Check.fails("14: the merge is gone", Check.STATE, () -> mill.giveUp());
                Check.due("12: begun anew", mill.merge(), 3);
                Check.due("13: from the first document on", mill.step(), 2);
            } else {
                Check.due("24: it has ended", mill.segmentAt(0), 3);
                Check.due("20: not DOWN", mill.isDown(), false);
                Check.crashed(mill);
                mill.open();
                Check.due("23: what the commit does not name is gone", mill.segments(), 3);
                mill.add(9);
                Check.due("10: the number was taken", mill.flush(), 4);
            }
        }
    }

    static void deletedAheadOfTheMerge() {
        SearchMill mill = Check.withSegments(2, 2, 2);
        mill.delete(0);
        mill.delete(3);
        mill.delete(4);
        mill.delete(5);
        Check.due("12: those that are live then", mill.merge(), 2);
        Check.due("13: one", mill.step(), 1);
        Check.due("13: two", mill.step(), 0);
        Check.due("13: the end", mill.step(), SearchMill.NONE);
        Check.due("26: the first", mill.keyAt(0, 0), 1);
        Check.due("26: the second, numbered anew", mill.keyAt(0, 1), 2);
        Check.fails("26: no more", Check.INDEX, () -> mill.keyAt(0, 2));
    }

    static void deletedInBetween() {
        SearchMill mill = Check.withSegments(2, 2, 2);
        mill.merge();
        mill.delete(5);
        Check.due("13: one that is deleted by now is still to be copied", mill.step(), 5);
        mill.delete(0);
        for (int left = 4; left >= 0; left--) {
            Check.due("13: still to be copied", mill.step(), left);
        }
        mill.delete(3);
        Check.due("13: the end", mill.step(), SearchMill.NONE);
        Check.due("25: live are those that are live in the sources by then", mill.live(0), 3);
        for (int document = 0; document < 6; document++) {
            Check.due("26: all were copied", mill.keyAt(0, document), document);
        }
        Check.due("9: 0 was deleted, copied already", mill.delete(0), false);
        Check.due("9: 5 was deleted, not copied yet", mill.delete(5), false);
        Check.due("9: 3 was deleted, all copied", mill.delete(3), false);
        Check.due("9: 4 is live", mill.delete(4), true);
        Check.due("25: two", mill.live(0), 2);
    }

    static void addedInBetween() {
        SearchMill mill = Check.withSegments(1, 1, 1);
        mill.merge();
        mill.step();
        mill.add(0);
        mill.add(2);
        mill.step();
        mill.step();
        Check.due("13: the end", mill.step(), SearchMill.NONE);
        Check.due("25: of the same keys are new ones in the buffer", mill.live(0), 1);
        Check.due("10: flushed", mill.flush(), 4);
        Check.due("25: both", mill.live(1), 2);
    }

    static void allDeletedInBetween() {
        SearchMill mill = Check.withSegments(1, 1, 1);
        Check.due("12: three", mill.merge(), 3);
        for (int key = 0; key < 3; key++) {
            mill.step();
            mill.delete(key);
        }
        Check.due("13: the end", mill.step(), SearchMill.NONE);
        Check.due("23: something was copied, so a segment comes", mill.segments(), 1);
        Check.due("25: none is live", mill.live(0), 0);
        Check.due("26: but all are in it", mill.keyAt(0, 2), 2);
        Check.due("24: it has a number", mill.segmentAt(0), 3);
        int writes = mill.writes();
        mill.prepare();
        Check.due("15: it is not as all live: a write, and one for the commit", mill.writes() - writes, 2);
    }

    static void nothingToCopy() {
        SearchMill mill = Check.withSegments(2, 1, 1);
        for (int key = 0; key < 4; key++) {
            mill.delete(key);
        }
        Check.due("12: none", mill.merge(), 0);
        Check.due("21: nothing is copied: no file", mill.files(), 3);
        Check.due("23: the sources stay until the step", mill.segments(), 3);
        int writes = mill.writes();
        Check.due("13: the next step ends it", mill.step(), SearchMill.NONE);
        Check.due("22: each step does a write", mill.writes() - writes, 1);
        Check.due("23: nothing comes", mill.segments(), 0);
        Check.due("21: no files", mill.files(), 0);
        mill.add(1);
        Check.due("10: no number was taken", mill.flush(), 3);
        SearchMill crash = Check.withSegments(1, 1, 1);
        for (int key = 0; key < 3; key++) {
            crash.delete(key);
        }
        crash.merge();
        crash.crashAt(0);
        Check.due("13: a crash at the step that ends it", crash.step(), SearchMill.DOWN);
    }

    static void nothingToCopyButOthers() {
        SearchMill mill = Check.withSegments(3, 1, 1, 1, 3);
        for (int key = 3; key < 6; key++) {
            mill.delete(key);
        }
        mill.merge();
        mill.step();
        Check.due("23: those ahead and behind", mill.segments(), 2);
        Check.due("24: ahead", mill.segmentAt(0), 0);
        Check.due("24: behind", mill.segmentAt(1), 4);
        Check.due("26: as they were", mill.keyAt(1, 0), 6);
    }

    static void numberAtTheEnd() {
        SearchMill mill = Check.withSegments(3, 1, 1, 1, 3);
        mill.merge();
        mill.step();
        mill.add(50);
        Check.due("10: flushed in between", mill.flush(), 5);
        mill.add(51);
        Check.due("10: flushed in between again", mill.flush(), 6);
        mill.step();
        mill.step();
        mill.step();
        int[] numbers = {0, 7, 4, 5, 6};
        Check.due("23: five", mill.segments(), 5);
        for (int place = 0; place < numbers.length; place++) {
            Check.due("24: in place of the sources, with its number only then", mill.segmentAt(place), numbers[place]);
        }
    }

    static void sourcesUntilTheEnd() {
        SearchMill mill = new SearchMill();
        for (int key = 0; key < 3; key++) {
            Check.added(mill, key, "a");
            mill.flush();
        }
        mill.look(true);
        mill.merge();
        mill.step();
        mill.step();
        mill.step();
        mill.look(true);
        mill.delete(0);
        mill.step();
        mill.look(true);
        Check.termQuery(mill, 0, "a");
        Check.due("35: a snapshot of the sources", mill.documents(0), 3);
        Check.due("35: a snapshot in between", mill.documents(1), 3);
        Check.due("35: one of the merged segment", mill.documents(2), 2);
        Check.due("53: of the sources", mill.matches(1, 0), 3);
        Check.due("53: of the merged segment", mill.matches(2, 0), 2);
    }

    static void wordsOfTheMergedOne() {
        SearchMill mill = new SearchMill();
        String[] texts = {"gone", "ape", "bee", "late", "cat ape"};
        for (int key = 0; key < 5; key++) {
            Check.typed(mill, texts[key]).text(1);
            Check.added(mill, key, texts[key]);
            if (key != 0 && key != 3) {
                mill.flush();
            }
        }
        mill.delete(0);
        mill.merge();
        mill.delete(3);
        for (int i = 0; i < 5; i++) {
            mill.step();
        }
        Check.due("words of what was copied, live or not", Check.words(mill), "ape bee cat late");
        Check.due("in both fields", mill.words(0, 1), 4);
        Check.bits("ape in the documents 0 and 3", mill, 0, "0010 00 00 00 10 0001 0 1");
    }

    static void mergedAgain() {
        SearchMill mill = Check.withSegments(1, 1, 1, 3, 3);
        Check.due("12: three", Check.merged(mill), 3);
        Check.due("11: due with the merged one", mill.due(), 0);
        mill.delete(1);
        Check.due("12: eight", Check.merged(mill), 8);
        Check.due("23: one", mill.segments(), 1);
        Check.due("24: the number", mill.segmentAt(0), 6);
        Check.due("26: the second", mill.keyAt(0, 1), 2);
        Check.due("11: none is due", mill.due(), SearchMill.NONE);
    }

    static void giveUpAtAnyStep() {
        for (int steps = 0; steps <= 3; steps++) {
            SearchMill mill = Check.withSegments(1, 1, 1);
            mill.merge();
            for (int step = 0; step < steps; step++) {
                mill.step();
            }
            int writes = mill.writes();
            mill.delete(1);
            Check.due("14: how many were copied", mill.giveUp(), steps);
            Check.due("14: no write", mill.writes(), writes);
            Check.due("14: the sources stay", mill.segments(), 3);
            Check.due("14: as they are by then", mill.live(1), 0);
            Check.due("14: without its file", mill.files(), 3);
            Check.fails("14: it is given up", Check.STATE, () -> mill.step());
            Check.due("12: begun anew with those that are live now", mill.merge(), 2);
            Check.due("13: from the first one on", mill.step(), 1);
            Check.due("14: one was copied", mill.giveUp(), 1);
        }
    }

    static void stepAndGiveUpRefused() {
        Check.refused("13: none is under way", Check.STATE, () -> Check.withSegments(1, 1, 1), SearchMill::step);
        Check.refused("14: none is under way", Check.STATE, () -> Check.withSegments(1, 1, 1), SearchMill::giveUp);
        Check.refused("13: no crash comes at a step that is refused", Check.STATE, () -> {
            SearchMill mill = Check.withSegments(1, 1, 1);
            mill.crashAt(0);
            return mill;
        }, SearchMill::step);
        Check.refused("13: DOWN", Check.STATE, EdgesOfMerging::downInAMerge, SearchMill::step);
        Check.refused("14: DOWN", Check.STATE, EdgesOfMerging::downInAMerge, SearchMill::giveUp);
    }

    static SearchMill downInAMerge() {
        SearchMill mill = Check.withSegments(1, 1, 1);
        mill.prepare();
        mill.finish();
        mill.merge();
        mill.step();
        mill.crashAt(0);
        mill.step();
        return mill;
    }
}
