import java.util.function.Supplier;

/** The edges that the document names under "Ranks" and "Finding" and in the promises 47 to 52. */
public final class EdgesOfFinding {
    public static void main(String[] args) {
        rarities();
        raritiesOfLiveDocuments();
        raritiesOfEachField();
        strengths();
        ranksOfPhrases();
        ranksOfNears();
        ranksOfOthers();
        ranksOfGroups();
        equalRanks();
        mostFrom1To20();
        fewerThanWanted();
        findRefused();
        hitsInRange();
        whatWasFoundLast();
        blocksOfFour();
        boundNotAboveTheLeastRank();
        boundOfTheGreatestCount();
        boundOfPhrasesAndNears();
        boundOfOthers();
        boundOfAllLeaves();
        boundWithoutSecondParts();
        boundJustAboveTheLeastRank();
        boundOfTheFirstDocument();
        twentyAndBetterOnes();
        boundOfTheDead();
        boundOfATokenThatNoneHasLive();
        skipsOnlyWhenFull();
        blocksOfEachSegment();
        cacheOfEight();
        takenLongestAgo();
        cacheOfSegments();
        takenIsTheRightEntry();
        cacheForFindingAlone();
        cacheOfMatchesAlone();
        ranksByScanRefused();
        Check.end();
    }

    /** Documents of which the first ones have "a" and all have "b". */
    static SearchMill having(int all, int some) {
        SearchMill mill = new SearchMill();
        for (int key = 0; key < all; key++) {
            Check.added(mill, key, key < some ? "a b" : "b");
            if (key % 12 == 11) {
                mill.flush();
            }
        }
        mill.flush();
        mill.look(true);
        Check.termQuery(mill, 0, "a");
        return mill;
    }

    static void rarity(int all, int some, int due) {
        SearchMill mill = having(all, some);
        Check.due("52: " + some + " of " + all, mill.rankByScan(0, 0, 0), 96 * due);
        mill.find(0, 0, 1);
        Check.due("49: " + some + " of " + all, mill.rankAt(0), 96 * due);
    }

    static void rarities() {
        rarity(1, 1, 1);
        rarity(2, 1, 1);
        rarity(3, 1, 2);
        rarity(4, 1, 2);
        rarity(6, 1, 2);
        rarity(7, 1, 3);
        rarity(14, 1, 3);
        rarity(15, 1, 4);
        rarity(30, 1, 4);
        rarity(31, 1, 5);
        rarity(4, 2, 1);
        rarity(5, 2, 2);
        rarity(10, 2, 2);
        rarity(11, 2, 3);
        rarity(12, 12, 1);
        rarity(12, 6, 1);
        rarity(13, 6, 2);
        rarity(11, 5, 2);
        rarity(10, 5, 1);
    }

    static void raritiesOfLiveDocuments() {
        SearchMill mill = having(7, 2);
        Check.due("8 by 3 is 2", mill.rankByScan(0, 0, 0), 96 * 2);
        mill.delete(1);
        mill.look(true);
        Check.due("7 by 2 is 3", mill.rankByScan(1, 0, 0), 96 * 2);
        Check.added(mill, 50, "b");
        mill.look(true);
        Check.due("the buffer is not in the snapshot", mill.rankByScan(2, 0, 0), 96 * 2);
        mill.flush();
        mill.look(true);
        Check.due("8 by 2 is 4", mill.rankByScan(3, 0, 0), 96 * 3);
        mill.find(3, 0, 1);
        Check.due("8 by 2 is 4, by postings", mill.rankAt(0), 96 * 3);
        Check.due("the old snapshot keeps its own", mill.rankByScan(0, 0, 0), 96 * 2);
        mill.find(0, 0, 1);
        Check.due("the old snapshot keeps its own, by postings", mill.rankAt(0), 96 * 2);
        for (int key = 2; key < 7; key++) {
            mill.delete(key);
        }
        mill.look(true);
        Check.due("3 by 2 is 1", mill.rankByScan(4, 0, 0), 96);
    }

    static void raritiesOfEachField() {
        SearchMill mill = new SearchMill();
        for (int key = 0; key < 7; key++) {
            Check.added(mill, key, "a", key == 0 ? "a" : "b");
        }
        mill.flush();
        mill.look(true);
        Check.termQuery(mill, 0, "a");
        Check.termQuery(mill, 1, "a");
        Check.due("field 0: 8 by 8", mill.rankByScan(0, 0, 0), 96);
        Check.due("field 1: 8 by 2", mill.rankByScan(0, 1, 0), 32 * 3);
        mill.find(0, 1, 1);
        Check.due("field 1, by postings", mill.rankAt(0), 32 * 3);
    }

    static void strengths() {
        StringBuilder text = new StringBuilder();
        for (int count = 1; count <= 20; count++) {
            text.append("a ");
            SearchMill mill = Check.with(text.toString());
            Check.termQuery(mill, 0, "a");
            int due = 3 * (64 * count / (count + 1));
            Check.due("the strength of " + count, mill.rankByScan(0, 0, 0), due);
            Check.due("the strength of " + count, Check.hits(mill, 0, 0, 1), "0:" + due);
        }
        SearchMill mill = Check.with("a a");
        Check.termQuery(mill, 0, "a");
        Check.due("128 by 3, rounded down", mill.rankByScan(0, 0, 0), 126);
    }

    static int ranked(SearchMill mill, int key) {
        int query = mill.query();
        int rank = mill.rankByScan(0, query, key);
        int held = mill.find(0, query, 20);
        int found = SearchMill.NONE;
        for (int i = 0; i < held; i++) {
            found = mill.hitAt(i) == key ? mill.rankAt(i) : found;
        }
        Check.due("49: as by scan", found, rank);
        return rank;
    }

    static void ranksOfPhrases() {
        SearchMill mill = Check.with("a b a a b a x b", "b", "c", "c", "c", "c", "c");
        // N is 7: "a" has the rarity 3, "b" 8 by 3: 2.
        Check.typed(mill, "a b").phrase(0, 0);
        Check.due("two of four places count, both rarities", ranked(mill, 0), 3 * 42 * 5);
        Check.typed(mill, "a b").phrase(0, 1);
        Check.due("four places", ranked(mill, 0), 3 * 51 * 5);
        Check.typed(mill, "b a").phrase(0, 0);
        Check.due("the first token is b", ranked(mill, 0), 3 * 42 * 5);
        Check.typed(mill, "a a").phrase(0, 0);
        Check.due("each token of the pad counted", ranked(mill, 0), 3 * 32 * 6);
        Check.typed(mill, "a").phrase(0, 5);
        Check.due("one token is as a TERM", ranked(mill, 0), 3 * 51 * 3);
        Check.typed(mill, "b").phrase(0, 0);
        Check.due("another document", ranked(mill, 1), 3 * 32 * 2);
    }

    static void ranksOfNears() {
        SearchMill mill = Check.with("a b x a x b x x a", "b", "c", "c", "c", "c", "c");
        Check.typed(mill, "a b").near(0, 1, false);
        Check.due("one place", ranked(mill, 0), 3 * 32 * 5);
        Check.typed(mill, "a b").near(0, 2, false);
        Check.due("two places", ranked(mill, 0), 3 * 42 * 5);
        Check.typed(mill, "a b").near(0, 3, false);
        Check.due("three places", ranked(mill, 0), 3 * 48 * 5);
        Check.typed(mill, "a b").near(0, 20, true);
        Check.due("two of them in order", ranked(mill, 0), 3 * 42 * 5);
        Check.typed(mill, "b a").near(0, 20, false);
        Check.due("two places of b", ranked(mill, 0), 3 * 42 * 5);
        Check.typed(mill, "a a").near(0, 20, true);
        Check.due("two places of a, its rarity twice", ranked(mill, 0), 3 * 42 * 6);
    }

    static void ranksOfOthers() {
        SearchMill mill = new SearchMill();
        Check.added(mill, 0, "aa aa ab", "aa ab ac");
        for (int key = 1; key < 7; key++) {
            Check.added(mill, key, "x", "x");
        }
        mill.flush();
        mill.look(true);
        Check.typed(mill, "a").prefix(0);
        Check.due("32 for PREFIX, however often and rare", ranked(mill, 0), 3 * 32);
        Check.typed(mill, "a?").wild(0);
        Check.due("32 for WILD", ranked(mill, 0), 3 * 32);
        Check.typed(mill, "aa").fuzzy(0, 1);
        Check.due("32 for FUZZY", ranked(mill, 0), 3 * 32);
        Check.typed(mill, "a").prefix(1);
        Check.due("the weight of the field", ranked(mill, 0), 32);
        mill.weigh(1, 9);
        Check.due("the weight by now", mill.rankByScan(0, 3, 0), 9 * 32);
        mill.find(0, 3, 1);
        Check.due("the weight by now, found", mill.rankAt(0), 9 * 32);
    }

    static void ranksOfGroups() {
        SearchMill mill = Check.with("a a b", "a", "c");
        for (String word : new String[] {"a", "b", "z"}) {
            Check.typed(mill, word).term(0);
        }
        mill.least(3, 1);
        Check.due("what all of its parts that match give: a and b", ranked(mill, 0), 3 * (42 + 2 * 32));
        for (String word : new String[] {"a", "a"}) {
            Check.typed(mill, word).term(0);
        }
        mill.least(2, 2);
        Check.due("the same twice", ranked(mill, 1), 2 * 96);
        Check.typed(mill, "c").term(0);
        Check.typed(mill, "a").term(0);
        Check.typed(mill, "b").term(0);
        mill.least(2, 2);
        mill.least(2, 1);
        Check.due("a group that does not match gives nothing", ranked(mill, 1), SearchMill.NONE);
        Check.due("the other part alone", mill.rankByScan(0, 2, 2), 3 * 2 * 32);
        Check.typed(mill, "a").term(0);
        Check.typed(mill, "b").term(0);
        mill.but();
        Check.due("BUT what its first one gives", ranked(mill, 1), 96);
        Check.due("BUT with the second one", mill.rankByScan(0, 3, 0), SearchMill.NONE);
        Check.due("BUT without the first one", mill.rankByScan(0, 3, 2), SearchMill.NONE);
    }

    static void equalRanks() {
        SearchMill mill = new SearchMill();
        int[] keys = {50, 3, 99, 0, 7, 20, 1};
        for (int i = 0; i < keys.length; i++) {
            Check.added(mill, keys[i], i == 4 ? "a a" : "a");
            if (i == 2) {
                mill.flush();
            }
        }
        mill.flush();
        mill.look(true);
        Check.termQuery(mill, 0, "a");
        Check.due("the greater rank, then the order of segments and numbers", Check.hits(mill, 0, 0, 20),
            "7:126 50:96 3:96 99:96 0:96 20:96 1:96");
        Check.due("the earlier ones of the same rank", Check.hits(mill, 0, 0, 3), "7:126 50:96 3:96");
        Check.due("the best one alone", Check.hits(mill, 0, 0, 1), "7:126");
        Check.due("the worst one goes", Check.hits(mill, 0, 0, 2), "7:126 50:96");
    }

    static void mostFrom1To20() {
        SearchMill mill = having(24, 24);
        for (int most = 1; most <= 20; most++) {
            Check.due("47: at most " + most, mill.find(0, 0, most), most);
            int behind = most;
            Check.due("48: the last one", mill.hitAt(most - 1), most - 1);
            Check.fails("48: none behind it", Check.INDEX, () -> mill.hitAt(behind));
            Check.fails("49: none behind it", Check.INDEX, () -> mill.rankAt(behind));
        }
    }

    static void fewerThanWanted() {
        SearchMill mill = having(8, 3);
        Check.due("47: three, two wanted", mill.find(0, 0, 2), 2);
        Check.due("47: three, three wanted", mill.find(0, 0, 3), 3);
        Check.due("47: three, four wanted", mill.find(0, 0, 4), 3);
        Check.due("47: three, twenty wanted", mill.find(0, 0, 20), 3);
        Check.fails("48: no fourth", Check.INDEX, () -> mill.hitAt(3));
        Check.termQuery(mill, 0, "z");
        Check.due("47: none", mill.find(0, 1, 20), 0);
        Check.fails("48: not one", Check.INDEX, () -> mill.hitAt(0));
        Check.fails("49: not one", Check.INDEX, () -> mill.rankAt(0));
        SearchMill empty = new SearchMill();
        empty.look(false);
        Check.termQuery(empty, 0, "a");
        Check.due("47: no documents", empty.find(0, 0, 1), 0);
        Check.due("50: no blocks", empty.skipped(), 0);
        Check.due("51: no segments", empty.cached(), 0);
    }

    static SearchMill found() {
        SearchMill mill = Check.with("a", "a a", "b", "a", "a", "a");
        Check.termQuery(mill, 0, "a");
        Check.termQuery(mill, 0, "b");
        mill.look(true);
        mill.shut(1);
        mill.find(0, 0, 1);
        mill.find(0, 0, 2);
        return mill;
    }

    static void findRefused() {
        Supplier<SearchMill> made = EdgesOfFinding::found;
        for (int most : new int[] {0, -1, 21, Integer.MIN_VALUE, Integer.MAX_VALUE}) {
            Check.refused("47: most " + most, Check.ARGUMENT, made, mill -> mill.find(0, 1, most));
            Check.refused("47: most " + most + ", no such query", Check.INDEX, made, mill -> mill.find(0, 2, most));
            Check.refused("47: most " + most + ", no such snapshot", Check.INDEX, made, mill -> mill.find(2, 1, most));
        }
        for (int snapshot : new int[] {-1, 1, 2, Integer.MIN_VALUE, Integer.MAX_VALUE}) {
            Check.refused("47: snapshot " + snapshot, Check.INDEX, made, mill -> mill.find(snapshot, 1, 1));
        }
        for (int query : new int[] {-1, 2, 40, Integer.MIN_VALUE, Integer.MAX_VALUE}) {
            Check.refused("47: query " + query, Check.INDEX, made, mill -> mill.find(0, query, 1));
        }
        Check.refused("47: DOWN", Check.INDEX, () -> Check.crashed(found()), mill -> mill.find(0, 0, 1));
    }

    static void hitsInRange() {
        SearchMill mill = found();
        for (int place : new int[] {-1, 2, 3, 20, Integer.MIN_VALUE, Integer.MAX_VALUE}) {
            Check.fails("48: the place " + place, Check.INDEX, () -> mill.hitAt(place));
            Check.fails("49: the place " + place, Check.INDEX, () -> mill.rankAt(place));
        }
        Check.due("48: the best one first", mill.hitAt(0), 1);
        Check.due("48: the last one", mill.hitAt(1), 0);
        Check.due("49: the best one first", mill.rankAt(0), 126);
        Check.due("49: the last one", mill.rankAt(1), 96);
        Check.unchanged("48 to 51: questions change nothing", EdgesOfFinding::found, asked -> {
            asked.hitAt(0);
            asked.rankAt(1);
            asked.skipped();
            asked.cached();
        });
        SearchMill fresh = new SearchMill();
        Check.fails("48: nothing was found yet", Check.INDEX, () -> fresh.hitAt(0));
        Check.fails("49: nothing was found yet", Check.INDEX, () -> fresh.rankAt(0));
        Check.due("50: nothing was found yet", fresh.skipped(), 0);
        Check.due("51: nothing was found yet", fresh.cached(), 0);
    }

    static void whatWasFoundLast() {
        SearchMill mill = found();
        Check.due("50: the second block was skipped", mill.skipped(), 1);
        Check.due("51: taken from the cache", mill.cached(), 1);
        Check.due("47: another query", mill.find(0, 1, 5), 1);
        Check.due("48: of what was found last", mill.hitAt(0), 2);
        Check.fails("48: not of what was found ahead of it", Check.INDEX, () -> mill.hitAt(1));
        Check.due("50: none was skipped", mill.skipped(), 0);
        Check.due("51: none was taken", mill.cached(), 0);
        mill.find(0, 0, 1);
        mill.delete(1);
        mill.weigh(0, 9);
        mill.shut(0);
        Check.due("48: it stays as it was found", mill.hitAt(0), 1);
        Check.due("49: it stays as it was found", mill.rankAt(0), 126);
        Check.due("50: it stays as it was found", mill.skipped(), 1);
        Check.due("51: it stays as it was found", mill.cached(), 1);
        SearchMill none = found();
        Check.termQuery(none, 0, "z");
        none.find(0, 2, 1);
        Check.fails("48: nothing was found last", Check.INDEX, () -> none.hitAt(0));
    }

    /** A machine with a document "a" first, and then "b" in all others but one. */
    static int skippedWith(int documents, int place, String text) {
        SearchMill mill = new SearchMill();
        for (int i = 0; i < documents; i++) {
            Check.added(mill, i, i == 0 ? "a" : i == place ? text : "b");
        }
        mill.flush();
        mill.look(true);
        Check.termQuery(mill, 0, "a");
        mill.find(0, 0, 1);
        return mill.skipped();
    }

    static void blocksOfFour() {
        Check.due("50: the block 0 to 3 alone", skippedWith(4, 3, "b"), 0);
        Check.due("50: a block of one", skippedWith(5, 3, "b"), 1);
        Check.due("50: 4 to 7", skippedWith(8, 3, "b"), 1);
        Check.due("50: 8 is in the next one", skippedWith(9, 3, "b"), 2);
        Check.due("50: 12 documents", skippedWith(12, 3, "b"), 2);
        Check.due("50: 3 is in the first block", skippedWith(12, 3, "a a"), 2);
        Check.due("50: 4 is in the second block", skippedWith(12, 4, "a a"), 1);
        Check.due("50: 7 is in the second block", skippedWith(12, 7, "a a"), 1);
        Check.due("50: 8 is in the third block", skippedWith(12, 8, "a a"), 1);
        Check.due("50: 11 is in the third block", skippedWith(12, 11, "a a"), 1);
        SearchMill mill = new SearchMill();
        for (int i = 0; i < 9; i++) {
            Check.added(mill, i, i == 3 || i == 4 || i == 8 ? "a a" : "a");
        }
        mill.flush();
        mill.look(true);
        Check.termQuery(mill, 0, "a");
        Check.due("47: the first of the best", Check.hits(mill, 0, 0, 1), "3:126");
        Check.due("50: of the same bound", mill.skipped(), 2);
        Check.due("47: the first two of the best", Check.hits(mill, 0, 0, 2), "3:126 4:126");
        Check.due("50: the third block", mill.skipped(), 1);
        Check.due("47: all three of them", Check.hits(mill, 0, 0, 3), "3:126 4:126 8:126");
        Check.due("50: none", mill.skipped(), 0);
    }

    static void boundNotAboveTheLeastRank() {
        SearchMill mill = new SearchMill();
        String[] texts = {"a a", "a", "b", "b", "a", "b", "b", "b", "a a", "b", "b", "b"};
        for (int i = 0; i < texts.length; i++) {
            Check.added(mill, i, texts[i]);
        }
        mill.flush();
        mill.look(true);
        Check.termQuery(mill, 0, "a");
        // N is 12, "a" has 4: 13 by 5 is 2, the rarity 2.
        Check.due("47: one", Check.hits(mill, 0, 0, 1), "0:252");
        Check.due("50: less than it, and the same", mill.skipped(), 2);
        Check.due("47: two", Check.hits(mill, 0, 0, 2), "0:252 8:252");
        Check.due("50: the same as the least rank, and above it", mill.skipped(), 1);
        Check.due("47: three", Check.hits(mill, 0, 0, 3), "0:252 8:252 1:192");
        Check.due("50: not as many are held as wanted", mill.skipped(), 0);
    }

    static void boundOfTheGreatestCount() {
        SearchMill mill = Check.with("a a", "b", "b", "b", "a", "a", "a", "a", "a", "a a a", "b", "b");
        Check.termQuery(mill, 0, "a");
        mill.find(0, 0, 1);
        Check.due("50: once in each of four is once", mill.skipped(), 1);
        Check.due("48: three times", mill.hitAt(0), 9);
    }

    static void boundOfPhrasesAndNears() {
        SearchMill mill = Check.with("a b", "x", "x", "x", "a x a", "x", "x", "x", "a c", "x", "x", "x");
        Check.typed(mill, "a b").phrase(0, 0);
        mill.query();
        Check.due("47: the phrase", Check.hits(mill, 0, 0, 1).substring(0, 2), "0:");
        Check.due("50: places of the first token, whether they count or not: once is skipped, twice not", mill.skipped(), 1);
        Check.typed(mill, "a b").near(0, 1, true);
        mill.query();
        mill.find(0, 1, 1);
        Check.due("50: of NEAR as well", mill.skipped(), 1);
        Check.typed(mill, "b a").phrase(0, 20);
        Check.typed(mill, "x").term(0);
        mill.least(2, 1);
        mill.query();
        mill.find(0, 2, 2);
        Check.due("50: 0 without the first token", mill.skipped(), 2);
        Check.typed(mill, "b a").near(0, 1, false);
        mill.query();
        mill.find(0, 3, 1);
        Check.due("50: none of b in both blocks", mill.skipped(), 2);
    }

    static void boundOfOthers() {
        SearchMill mill = Check.with("aa", "x", "x", "x", "aa ab ac", "aa", "ab", "x", "x", "x", "x", "x");
        String[] kinds = {"PREFIX", "WILD", "FUZZY"};
        Check.typed(mill, "a").prefix(0);
        mill.query();
        Check.typed(mill, "a?").wild(0);
        mill.query();
        Check.typed(mill, "aa").fuzzy(0, 1);
        mill.query();
        for (int query = 0; query < 3; query++) {
            Check.due("47: " + kinds[query], Check.hits(mill, 0, query, 1), "0:96");
            Check.due("50: 32 times the weight however many, 0 without one: " + kinds[query], mill.skipped(), 2);
        }
        Check.typed(mill, "a").prefix(0);
        Check.typed(mill, "aa").term(0);
        mill.least(2, 1);
        mill.query();
        mill.find(0, 3, 1);
        Check.due("50: the same together", mill.skipped(), 2);
        Check.typed(mill, "ac").prefix(0);
        Check.typed(mill, "a").prefix(0);
        mill.least(2, 1);
        mill.query();
        mill.find(0, 4, 1);
        Check.due("50: one leaf more", mill.skipped(), 1);
        Check.due("48: it is better", mill.hitAt(0), 4);
    }

    static void boundOfAllLeaves() {
        SearchMill mill = Check.with("a b c", "x", "x", "x", "a", "b", "c", "a a", "a b", "c", "x", "x");
        for (String word : new String[] {"a", "b", "c"}) {
            Check.typed(mill, word).term(0);
        }
        mill.least(3, 3);
        mill.query();
        mill.find(0, 0, 1);
        Check.due("50: leaves of different documents together, also of ALL", mill.skipped(), 1);
        Check.due("47: one hit", mill.find(0, 0, 20), 1);
    }

    static void boundWithoutSecondParts() {
        SearchMill mill = Check.with("a", "x", "x", "x", "a b", "a", "x", "x", "b", "x", "x", "x");
        Check.typed(mill, "a").term(0);
        Check.typed(mill, "b").term(0);
        mill.but();
        mill.query();
        mill.find(0, 0, 1);
        Check.due("50: b is in a second part", mill.skipped(), 2);
        Check.typed(mill, "a").term(0);
        Check.typed(mill, "x").term(0);
        Check.typed(mill, "b").term(0);
        mill.least(2, 1);
        mill.but();
        mill.query();
        mill.find(0, 1, 1);
        Check.due("50: all of the second part", mill.skipped(), 2);
        Check.typed(mill, "a").term(0);
        Check.typed(mill, "x").term(0);
        Check.typed(mill, "b").term(0);
        mill.but();
        mill.but();
        mill.query();
        mill.find(0, 2, 1);
        Check.due("50: a first part in a second part is in a second part", mill.skipped(), 2);
        Check.typed(mill, "a").term(0);
        Check.typed(mill, "z").term(0);
        mill.but();
        Check.typed(mill, "b").term(0);
        mill.least(2, 1);
        mill.query();
        mill.find(0, 3, 1);
        Check.due("50: b is behind a BUT, not in it", mill.skipped(), 1);
    }

    static void boundJustAboveTheLeastRank() {
        SearchMill mill = new SearchMill();
        for (int key = 0; key < 9; key++) {
            Check.typed(mill, key == 0 || key == 8 ? "a a a a a" : key == 4 ? "a a a a a a" : "a").text(1);
            mill.add(key);
        }
        mill.flush();
        mill.look(true);
        Check.termQuery(mill, 1, "a");
        Check.due("47: 320 by 6 and 384 by 7", Check.hits(mill, 0, 0, 2), "4:54 0:53");
        Check.due("50: none but the last one", mill.skipped(), 1);
        Check.due("47: one above the least rank", Check.hits(mill, 0, 0, 1), "4:54");
        Check.due("50: 54 is above 53, 53 is not above 54", mill.skipped(), 1);
    }

    static void boundOfTheFirstDocument() {
        SearchMill mill = new SearchMill();
        Check.added(mill, 0, "a");
        mill.flush();
        Check.added(mill, 1, "a a");
        Check.added(mill, 2, "a");
        mill.flush();
        Check.added(mill, 3, "a");
        Check.added(mill, 4, "a");
        Check.added(mill, 5, "a");
        Check.added(mill, 6, "a a a");
        mill.flush();
        mill.look(true);
        Check.termQuery(mill, 0, "a");
        Check.due("47: the best in the last place of a block", Check.hits(mill, 0, 0, 1), "6:144");
        Check.due("50: the document 0 and the document 3 make the bound", mill.skipped(), 0);
    }

    static void twentyAndBetterOnes() {
        SearchMill mill = new SearchMill();
        for (int key = 0; key < 24; key++) {
            Check.added(mill, key, key == 21 ? "a a" : key == 23 ? "a a a" : "a");
            if (key % 12 == 11) {
                mill.flush();
            }
        }
        mill.look(true);
        Check.termQuery(mill, 0, "a");
        Check.due("47: twenty", mill.find(0, 0, 20), 20);
        Check.due("48: the best one", mill.hitAt(0), 23);
        Check.due("48: the next one", mill.hitAt(1), 21);
        Check.due("48: the first of those behind them", mill.hitAt(2), 0);
        Check.due("48: the last one, two went", mill.hitAt(19), 17);
        Check.due("47: nineteen", mill.find(0, 0, 19), 19);
        Check.due("48: the last one of nineteen", mill.hitAt(18), 16);
    }

    static void boundOfTheDead() {
        SearchMill mill = Check.with("a", "x", "x", "x", "a a", "x", "x", "x", "a", "x", "x", "x");
        Check.termQuery(mill, 0, "a");
        mill.delete(4);
        mill.look(true);
        mill.find(1, 0, 1);
        Check.due("50: live or not: the second block is looked at", mill.skipped(), 1);
        Check.due("48: but its hit is not live", mill.hitAt(0), 0);
    }

    static void boundOfATokenThatNoneHasLive() {
        SearchMill mill = Check.with("a a a", "x", "x", "x", "a a", "x", "x", "x", "z", "x", "x", "x");
        mill.delete(8);
        Check.added(mill, 12, "a");
        mill.add(8);
        mill.add(20);
        mill.add(21);
        mill.flush();
        mill.look(true);
        Check.typed(mill, "z").term(0);
        Check.typed(mill, "a").term(0);
        mill.least(2, 1);
        mill.query();
        // N is 15, "a" has 3: 16 by 4, the rarity 3. "z" has none that is live: 16 by 1, the rarity 5.
        Check.due("47: three times a", Check.hits(mill, 1, 0, 1), "0:432");
        Check.due("50: 378, 480 and 288", mill.skipped(), 2);
        mill.add(22);
        mill.flush();
        mill.delete(20);
        mill.delete(21);
        mill.look(true);
        // N is 14: "z" has 15 by 1, the rarity 4; "a" has 15 by 4, the rarity 2.
        Check.due("47: three times a, another rarity", Check.hits(mill, 2, 0, 1), "0:288");
        Check.due("50: 252, 384, 192 and 0", mill.skipped(), 3);
    }

    static void skipsOnlyWhenFull() {
        SearchMill mill = having(24, 1);
        mill.find(0, 0, 1);
        Check.due("50: one is held, one wanted", mill.skipped(), 5);
        mill.find(0, 0, 2);
        Check.due("50: one is held, two wanted", mill.skipped(), 0);
        Check.termQuery(mill, 0, "z");
        mill.find(0, 1, 1);
        Check.due("50: none is held", mill.skipped(), 0);
    }

    static void blocksOfEachSegment() {
        SearchMill mill = new SearchMill();
        for (int key = 0; key < 15; key++) {
            Check.added(mill, key, "a");
            if (key % 5 == 4) {
                mill.flush();
            }
        }
        mill.look(true);
        Check.termQuery(mill, 0, "a");
        mill.find(0, 0, 1);
        Check.due("50: two of each of three segments but for the first", mill.skipped(), 5);
        mill.find(0, 0, 5);
        Check.due("50: full at the end of the first segment", mill.skipped(), 4);
        mill.find(0, 0, 6);
        Check.due("50: full in the first block of the second one", mill.skipped(), 3);
        mill.find(0, 0, 9);
        Check.due("50: full at the end of that block", mill.skipped(), 3);
        mill.find(0, 0, 10);
        Check.due("50: full behind it", mill.skipped(), 2);
        mill.find(0, 0, 15);
        Check.due("50: full at the very end", mill.skipped(), 0);
    }

    static SearchMill withQueries(int count) {
        SearchMill mill = Check.with("a");
        for (int i = 0; i < count; i++) {
            Check.termQuery(mill, 0, "a");
        }
        return mill;
    }

    static int cachedOf(SearchMill mill, int query) {
        mill.find(0, query, 1);
        return mill.cached();
    }

    static void cacheOfEight() {
        SearchMill mill = withQueries(9);
        for (int round = 0; round < 2; round++) {
            for (int query = 0; query < 8; query++) {
                Check.due("51: up to 8 entries", cachedOf(mill, query), round);
            }
        }
        Check.due("51: a ninth comes", cachedOf(mill, 8), 0);
        for (int query = 1; query < 9; query++) {
            Check.due("51: one goes", cachedOf(mill, query), 1);
        }
        Check.due("51: the one that was taken longest ago", cachedOf(mill, 0), 0);
        Check.due("51: and so on", cachedOf(mill, 1), 0);
    }

    static void takenLongestAgo() {
        SearchMill mill = withQueries(10);
        for (int query = 0; query < 8; query++) {
            cachedOf(mill, query);
        }
        Check.due("51: taken", cachedOf(mill, 0), 1);
        Check.due("51: a ninth: 1 goes, put longest ago", cachedOf(mill, 8), 0);
        Check.due("51: 0 was taken since", cachedOf(mill, 0), 1);
        Check.due("51: a tenth: 2 goes", cachedOf(mill, 9), 0);
        for (int query = 3; query < 8; query++) {
            Check.due("51: the others are there", cachedOf(mill, query), 1);
        }
        Check.due("51: 8 is there", cachedOf(mill, 8), 1);
        Check.due("51: 1 went", cachedOf(mill, 1), 0);
        Check.due("51: 2 went", cachedOf(mill, 2), 0);
    }

    static SearchMill withSegments(int count) {
        SearchMill mill = new SearchMill();
        for (int key = 0; key < count; key++) {
            Check.added(mill, key, "a");
            mill.flush();
        }
        mill.look(true);
        Check.termQuery(mill, 0, "a");
        Check.termQuery(mill, 0, "b");
        return mill;
    }

    static void cacheOfSegments() {
        SearchMill mill = withSegments(8);
        Check.due("51: eight segments, put", cachedOf(mill, 0), 0);
        Check.due("51: eight segments, taken", cachedOf(mill, 0), 8);
        SearchMill nine = withSegments(9);
        Check.due("51: nine segments, put", cachedOf(nine, 0), 0);
        Check.due("51: each goes ahead of its turn", cachedOf(nine, 0), 0);
        SearchMill two = withSegments(4);
        Check.due("51: four of one query", cachedOf(two, 0), 0);
        Check.due("51: four of another", cachedOf(two, 1), 0);
        Check.due("51: both are there", cachedOf(two, 0) + cachedOf(two, 1), 8);
        two.look(false);
        two.find(1, 0, 1);
        Check.due("51: a snapshot without segments", two.cached(), 0);
        SearchMill dead = withSegments(2);
        dead.find(0, 0, 1);
        dead.delete(0);
        dead.look(true);
        dead.find(1, 0, 1);
        Check.due("51: of which none is live, too", dead.cached(), 2);
        Check.due("48: another one's hit", dead.hitAt(0), 1);
        SearchMill merged = withSegments(3);
        merged.find(0, 0, 1);
        Check.merged(merged);
        merged.look(true);
        merged.find(1, 0, 1);
        Check.due("51: the merged one is another segment", merged.cached(), 0);
        merged.find(0, 0, 1);
        Check.due("51: the sources are still there", merged.cached(), 3);
        merged.find(1, 0, 1);
        Check.due("51: so is the merged one", merged.cached(), 1);
    }

    static void takenIsTheRightEntry() {
        SearchMill mill = new SearchMill();
        String[] texts = {"a", "b", "b a", "c", "a", "b c"};
        for (int key = 0; key < texts.length; key++) {
            Check.added(mill, key, texts[key]);
            if (key % 3 == 2) {
                mill.flush();
            }
        }
        mill.look(true);
        String[] words = {"a", "b", "c", "z"};
        String[] due = {"0:96 2:96 4:96", "1:96 2:96 5:96", "3:192 5:192", ""};
        for (String word : words) {
            Check.termQuery(mill, 0, word);
        }
        for (int round = 0; round < 3; round++) {
            for (int query = 0; query < words.length; query++) {
                Check.due("47: " + words[query], Check.hits(mill, 0, query, 20), due[query]);
                Check.due("51: one for a query and a segment", mill.cached(), round == 0 ? 0 : 2);
            }
        }
        Check.termQuery(mill, 0, "c");
        Check.due("47: a ninth and a tenth entry", Check.hits(mill, 0, 4, 20), due[2]);
        for (int query = 3; query >= 0; query--) {
            Check.due("47: " + words[query], Check.hits(mill, 0, query, 20), due[query]);
            Check.due("51: in place of the ones of a", mill.cached(), query == 0 ? 0 : 2);
        }
    }

    static void cacheForFindingAlone() {
        SearchMill mill = withQueries(9);
        mill.matches(0, 0);
        mill.matchesByScan(0, 0);
        mill.facet(0, 0, 0);
        mill.sortedAt(0, 0, false, 0);
        mill.rankByScan(0, 0, 0);
        mill.passages(0, 0, 0, 0);
        mill.passageAt(0, 0, 0, 0, 0);
        Check.due("51: nothing else puts anything", cachedOf(mill, 0), 0);
        for (int query = 1; query < 8; query++) {
            cachedOf(mill, query);
        }
        mill.matches(0, 0);
        mill.facet(0, 0, 0);
        mill.sortedAt(0, 0, true, 0);
        cachedOf(mill, 8);
        Check.due("51: nothing else takes anything, 0 went", cachedOf(mill, 0), 0);
        Check.unchanged("questions change nothing", EdgesOfFinding::found, asked -> {
            asked.matches(0, 1);
            asked.matchesByScan(0, 1);
            asked.facet(0, 1, 0);
            asked.sortedAt(0, 1, true, 0);
            asked.rankByScan(0, 1, 2);
            asked.passages(0, 1, 2, 0);
            asked.passageAt(0, 1, 2, 0, 0);
            asked.documents(0);
        });
    }

    static void cacheOfMatchesAlone() {
        SearchMill mill = Check.with("a", "a b", "b", "b", "b", "b", "b");
        Check.termQuery(mill, 0, "a");
        Check.due("47: two", Check.hits(mill, 0, 0, 9), "0:192 1:192");
        mill.weigh(0, 9);
        Check.due("47: ranked anew by the weight", Check.hits(mill, 0, 0, 9), "0:576 1:576");
        Check.due("51: taken", mill.cached(), 1);
        mill.delete(0);
        mill.delete(2);
        mill.delete(3);
        mill.delete(4);
        mill.look(true);
        Check.due("47: by what is live, and rarities of that", Check.hits(mill, 1, 0, 9), "1:576");
        mill.delete(5);
        mill.look(true);
        Check.due("47: another rarity", Check.hits(mill, 2, 0, 9), "1:288");
        Check.due("51: taken", mill.cached(), 1);
    }

    static void ranksByScanRefused() {
        Supplier<SearchMill> made = EdgesOfFinding::found;
        for (int key : new int[] {-1, 100, Integer.MIN_VALUE, Integer.MAX_VALUE}) {
            Check.refused("52: key " + key, Check.INDEX, made, mill -> mill.rankByScan(0, 0, key));
        }
        for (int snapshot : new int[] {-1, 1, 2}) {
            Check.refused("52: snapshot " + snapshot, Check.INDEX, made, mill -> mill.rankByScan(snapshot, 0, 0));
        }
        for (int query : new int[] {-1, 2, 40}) {
            Check.refused("52: query " + query, Check.INDEX, made, mill -> mill.rankByScan(0, query, 0));
        }
        SearchMill mill = made.get();
        Check.due("52: the key 99 without a document", mill.rankByScan(0, 0, 99), SearchMill.NONE);
        Check.due("52: it does not match", mill.rankByScan(0, 0, 2), SearchMill.NONE);
        Check.due("52: the key 0", mill.rankByScan(0, 0, 0), 96);
        mill.delete(0);
        mill.look(true);
        Check.due("52: no live document with the key", mill.rankByScan(2, 0, 0), SearchMill.NONE);
        Check.added(mill, 0, "a a a");
        mill.look(true);
        Check.due("52: the one in the buffer is not in it", mill.rankByScan(3, 0, 0), SearchMill.NONE);
        mill.flush();
        mill.look(true);
        Check.due("52: the live one with the key", mill.rankByScan(4, 0, 0), 144);
        Check.due("52: the old snapshot has the old one", mill.rankByScan(0, 0, 0), 96);
    }
}
