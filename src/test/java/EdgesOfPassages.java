import java.util.function.Supplier;
import java.util.function.ToIntFunction;

/** The edges that the document names under "Passages" and in the promises 53 to 58. */
public final class EdgesOfPassages {
    public static void main(String[] args) {
        matchesOfLiveDocuments();
        matchesOfNone();
        facetsOfCategories();
        facetRefused();
        sortedByNumbers();
        sortedOfSameNumbers();
        sortedInRange();
        noSuchSnapshotOrQuery();
        sixPlaces();
        sixPlacesAtTheEnd();
        fromAMarkedPlaceOn();
        oneMarkedPlaceOfEachLeaf();
        theFewest();
        earlierWhereTheyDiffer();
        earlierInTheSecondOne();
        markedPlacesOfTerms();
        markedPlacesOfPhrases();
        markedPlacesOfNears();
        markedPlacesOfOthers();
        leavesThatDoNotMatch();
        leavesInSecondParts();
        leavesOfTheOtherField();
        noneOf();
        manyLeaves();
        passageIndexes();
        passagesRefused();
        Check.end();
    }

    static SearchMill ten() {
        SearchMill mill = new SearchMill();
        for (int key = 0; key < 10; key++) {
            mill.columns(key, 999 - 111 * key);
            Check.added(mill, 99 - key, key < 8 ? "a" : "b");
            if (key == 4) {
                mill.flush();
            }
        }
        mill.flush();
        mill.look(true);
        Check.termQuery(mill, 0, "a");
        Check.termQuery(mill, 0, "z");
        mill.look(true);
        mill.shut(1);
        return mill;
    }

    static void matchesOfLiveDocuments() {
        SearchMill mill = ten();
        Check.due("53: live documents that match", mill.matches(0, 0), 8);
        Check.due("54: the same", mill.matchesByScan(0, 0), 8);
        mill.delete(99);
        Check.added(mill, 95, "b");
        Check.added(mill, 0, "a");
        mill.look(true);
        Check.due("53: live ones of the index, without the buffer", mill.matches(2, 0), 6);
        Check.due("54: the same", mill.matchesByScan(2, 0), 6);
        Check.due("53: as it was", mill.matches(0, 0), 8);
        Check.due("54: as it was", mill.matchesByScan(0, 0), 8);
        mill.flush();
        mill.look(true);
        Check.due("53: flushed", mill.matches(3, 0), 7);
        Check.due("54: flushed", mill.matchesByScan(3, 0), 7);
    }

    static void matchesOfNone() {
        SearchMill mill = ten();
        Check.due("53: none match", mill.matches(0, 1), 0);
        Check.due("54: none match", mill.matchesByScan(0, 1), 0);
        mill.look(false);
        Check.due("53: an empty snapshot", mill.matches(2, 0), 0);
        Check.due("54: an empty snapshot", mill.matchesByScan(2, 0), 0);
        Check.due("55: an empty snapshot", mill.facet(2, 0, 0), 0);
        Check.fails("56: an empty snapshot", Check.INDEX, () -> mill.sortedAt(2, 0, true, 0));
        Check.due("57: an empty snapshot", mill.passages(2, 0, 99, 0), 0);
        Check.due("58: an empty snapshot", mill.passageAt(2, 0, 99, 0, 0), SearchMill.NONE);
        Check.due("52: an empty snapshot", mill.rankByScan(2, 0, 99), SearchMill.NONE);
    }

    static void facetsOfCategories() {
        SearchMill mill = ten();
        for (int category = 0; category < 10; category++) {
            Check.due("55: category " + category, mill.facet(0, 0, category), category < 8 ? 1 : 0);
        }
        mill.delete(99);
        mill.look(true);
        Check.due("55: live ones", mill.facet(2, 0, 0), 0);
        Check.due("55: as it was", mill.facet(0, 0, 0), 1);
        mill.columns(9, 0);
        Check.added(mill, 1, "a");
        mill.columns(9, 0);
        Check.added(mill, 2, "a a");
        mill.flush();
        mill.look(true);
        Check.due("55: category 9", mill.facet(3, 0, 9), 2);
    }

    static void facetRefused() {
        for (int category : new int[] {-1, 10, Integer.MIN_VALUE, Integer.MAX_VALUE}) {
            Check.refused("55: category " + category, Check.ARGUMENT, EdgesOfPassages::ten,
                mill -> mill.facet(0, 0, category));
            Check.refused("55: category " + category + ", no such snapshot", Check.INDEX, EdgesOfPassages::ten,
                mill -> mill.facet(1, 0, category));
            Check.refused("55: category " + category + ", no such query", Check.INDEX, EdgesOfPassages::ten,
                mill -> mill.facet(0, 2, category));
        }
    }

    static void sortedByNumbers() {
        SearchMill mill = ten();
        for (int place = 0; place < 8; place++) {
            Check.due("56: by falling numbers, place " + place, mill.sortedAt(0, 0, true, place), 99 - place);
            Check.due("56: by rising numbers, place " + place, mill.sortedAt(0, 0, false, place), 92 + place);
        }
        mill.delete(92);
        mill.look(true);
        Check.due("56: live ones", mill.sortedAt(2, 0, false, 0), 93);
        Check.fails("56: there are seven then", Check.INDEX, () -> mill.sortedAt(2, 0, false, 7));
    }

    static void sortedOfSameNumbers() {
        SearchMill mill = new SearchMill();
        int[] numbers = {500, 0, 999, 500, 0, 999, 500};
        for (int i = 0; i < numbers.length; i++) {
            mill.columns(0, numbers[i]);
            Check.added(mill, 90 - i, "a");
            if (i == 3) {
                mill.flush();
            }
        }
        mill.flush();
        mill.look(true);
        Check.termQuery(mill, 0, "a");
        int[] rising = {89, 86, 90, 87, 84, 88, 85};
        int[] falling = {88, 85, 90, 87, 84, 89, 86};
        for (int place = 0; place < 7; place++) {
            Check.due("56: rising, the earlier one first: " + place, mill.sortedAt(0, 0, false, place), rising[place]);
            Check.due("56: falling, the earlier one first: " + place, mill.sortedAt(0, 0, true, place), falling[place]);
        }
    }

    static void sortedInRange() {
        for (int place : new int[] {-1, 8, 9, Integer.MIN_VALUE, Integer.MAX_VALUE}) {
            Check.refused("56: the place " + place, Check.INDEX, EdgesOfPassages::ten,
                mill -> mill.sortedAt(0, 0, false, place));
            Check.refused("56: the place " + place, Check.INDEX, EdgesOfPassages::ten,
                mill -> mill.sortedAt(0, 0, true, place));
        }
        SearchMill mill = ten();
        Check.fails("56: none match", Check.INDEX, () -> mill.sortedAt(0, 1, false, 0));
    }

    static void asked(String what, ToIntFunction<SearchMill> call) {
        Check.refused(what, Check.INDEX, EdgesOfPassages::ten, call::applyAsInt);
    }

    static void noSuchSnapshotOrQuery() {
        for (int snapshot : new int[] {Integer.MIN_VALUE, -1, 1, 2, Integer.MAX_VALUE}) {
            asked("53: snapshot " + snapshot, mill -> mill.matches(snapshot, 0));
            asked("54: snapshot " + snapshot, mill -> mill.matchesByScan(snapshot, 0));
            asked("55: snapshot " + snapshot, mill -> mill.facet(snapshot, 0, 0));
            asked("56: snapshot " + snapshot, mill -> mill.sortedAt(snapshot, 0, true, 0));
            asked("57: snapshot " + snapshot, mill -> mill.passages(snapshot, 0, 99, 0));
            asked("58: snapshot " + snapshot, mill -> mill.passageAt(snapshot, 0, 99, 0, 0));
        }
        for (int query : new int[] {Integer.MIN_VALUE, -1, 2, 40, Integer.MAX_VALUE}) {
            asked("53: query " + query, mill -> mill.matches(0, query));
            asked("54: query " + query, mill -> mill.matchesByScan(0, query));
            asked("55: query " + query, mill -> mill.facet(0, query, 0));
            asked("56: query " + query, mill -> mill.sortedAt(0, query, true, 0));
            asked("57: query " + query, mill -> mill.passages(0, query, 99, 0));
            asked("58: query " + query, mill -> mill.passageAt(0, query, 99, 0, 0));
        }
        SearchMill down = Check.crashed(ten());
        Check.fails("53: DOWN", Check.INDEX, () -> down.matches(0, 0));
        Check.fails("54: DOWN", Check.INDEX, () -> down.matchesByScan(0, 0));
        Check.fails("55: DOWN", Check.INDEX, () -> down.facet(0, 0, 10));
        Check.fails("56: DOWN", Check.INDEX, () -> down.sortedAt(0, 0, true, 0));
        Check.fails("57: DOWN", Check.INDEX, () -> down.passages(0, 0, 99, 0));
        Check.fails("58: DOWN", Check.INDEX, () -> down.passageAt(0, 0, 99, 0, 0));
        Check.fails("52: DOWN", Check.INDEX, () -> down.rankByScan(0, 0, 99));
    }

    /** ANY of the TERMs of these letters, in a document 0 of this text. */
    static String any(String text, String letters) {
        SearchMill mill = Check.with(text);
        for (int i = 0; i < letters.length() && i < 8; i++) {
            Check.typed(mill, letters.substring(i, i + 1)).term(0);
        }
        if (letters.length() > 1) {
            mill.least(Math.min(letters.length(), 8), 1);
        }
        return Check.passages(mill, mill.query());
    }

    static void passage(String what, String text, String letters, String due) {
        Check.due("57: " + what, any(text, letters), due);
    }

    static void sixPlaces() {
        passage("one place", "a", "a", "0");
        passage("5 behind is in it", "a x x x x b", "ab", "0");
        passage("6 behind is not", "a x x x x x b", "ab", "0 6");
        passage("all six", "a b c d e f", "abcdef", "0");
        passage("the seventh not", "a b c d e f g", "abcdefg", "0 1");
        passage("from a later place on", "x x a x x x x b", "ab", "2");
    }

    static void sixPlacesAtTheEnd() {
        passage("the last place", "x x x x x x x x x x x x x x x x x x x a", "a", "19");
        passage("places 14 and 19", "x x x x x x x x x x x x x x a x x x x b", "ab", "14");
        passage("places 13 and 19", "x x x x x x x x x x x x x a x x x x x b", "ab", "13 19");
        passage("places 0, 6, 12 and 18", "a x x x x x b x x x x x c x x x x x d", "abcd", "0 6 12 18");
        passage("the ends of four passages", "a b c d e f g h i j k l m n o p q r s t", "afglmrst", "0 5 11 17");
    }

    static void fromAMarkedPlaceOn() {
        passage("it begins at a marked place, not ahead of it", "x a x x x x b", "ab", "1");
        passage("not where nothing is marked", "x x x x a", "a", "4");
        passage("the second one at a marked place", "a x x x x x x x b c", "abc", "0 8");
        passage("not at a place between them", "x a x b x c x x x x d", "acd", "1 5");
    }

    static void oneMarkedPlaceOfEachLeaf() {
        passage("one of two places", "a x x x x x x a", "a", "0");
        passage("the second place of a lies with b", "a x x x x x x x a b", "ab", "8");
        passage("the first place of b lies with a", "a b x x x x x x x b", "ab", "0");
        passage("both leaves of the same token", "a x x x x x x x a", "aa", "0");
    }

    static void theFewest() {
        passage("one later one in place of two", "a x x x x x x b a", "ab", "7");
        passage("two in place of three", "a x x x x x x b a x x x x x c", "abc", "7 14");
        passage("three in place of four", "a x x x x x b x x x x x c x x x x a d", "abcd", "6 12 17");
    }

    static void earlierWhereTheyDiffer() {
        passage("the first one as early as can be", "a b a b", "ab", "0");
        passage("the first one begins earlier, though a later one would do", "b a x x x x b", "ab", "0");
    }

    static void earlierInTheSecondOne() {
        passage("the second one begins earlier", "a x x x x x x b x c", "abc", "0 7");
        passage("with what is in the first one, too", "a b x x x x x c x b", "abc", "0 7");
    }

    static void markedPlacesOfTerms() {
        Check.due("57: TERM", any("x a x", "a"), "1");
    }

    static SearchMill one(String text) {
        return Check.with(text);
    }

    static void markedPlacesOfPhrases() {
        SearchMill mill = one("a x x x x x x x a b");
        Check.typed(mill, "a b").phrase(0, 0);
        Check.due("57: the place of its first token that counts", Check.passages(mill, mill.query()), "8");
        Check.typed(mill, "a b").phrase(0, 20);
        Check.due("57: with slop the first one counts", Check.passages(mill, mill.query()), "0");
        Check.typed(mill, "a b").phrase(0, 0);
        Check.typed(mill, "b").term(0);
        mill.least(2, 2);
        Check.due("57: the second token is not its own", Check.passages(mill, mill.query()), "8");
        Check.typed(mill, "x a").phrase(0, 0);
        Check.typed(mill, "b").term(0);
        mill.least(2, 2);
        Check.due("57: only the x ahead of a", Check.passages(mill, mill.query()), "7");
    }

    static void markedPlacesOfNears() {
        SearchMill mill = one("a x x x x x x x b a x b");
        Check.typed(mill, "a b").near(0, 1, false);
        Check.due("57: the place of its first token that counts", Check.passages(mill, mill.query()), "9");
        Check.typed(mill, "b a").near(0, 1, false);
        Check.due("57: the other one is its first token", Check.passages(mill, mill.query()), "8");
        Check.typed(mill, "a b").near(0, 8, true);
        Check.due("57: in order", Check.passages(mill, mill.query()), "0");
        Check.typed(mill, "b a").near(0, 2, true);
        Check.due("57: in order, the first place of b", Check.passages(mill, mill.query()), "8");
    }

    static void markedPlacesOfOthers() {
        SearchMill mill = one("x ab x x x x x ac x x x x x ba");
        Check.typed(mill, "a").prefix(0);
        Check.due("57: PREFIX, at all places of tokens as told", Check.passages(mill, mill.query()), "1");
        Check.typed(mill, "?a").wild(0);
        Check.due("57: WILD", Check.passages(mill, mill.query()), "13");
        Check.typed(mill, "ac").fuzzy(0, 0);
        Check.due("57: FUZZY", Check.passages(mill, mill.query()), "7");
        Check.typed(mill, "ab").fuzzy(0, 1);
        Check.typed(mill, "ba").term(0);
        mill.least(2, 2);
        Check.due("57: a place of FUZZY, and the other", Check.passages(mill, mill.query()), "1 13");
        Check.typed(mill, "a*").wild(0);
        Check.typed(mill, "ac").term(0);
        mill.least(2, 2);
        Check.due("57: the second place of WILD lies with ac", Check.passages(mill, mill.query()), "7");
    }

    static void leavesThatDoNotMatch() {
        passage("a leaf that does not match is not marked", "a x x x x x x b", "azb", "0 7");
        SearchMill mill = one("a x x x x x x b x x x x x x c");
        Check.typed(mill, "a").term(0);
        Check.typed(mill, "b").term(0);
        Check.typed(mill, "z").term(0);
        mill.least(2, 2);
        mill.least(2, 1);
        Check.due("57: a leaf that matches, its group does not", Check.passages(mill, mill.query()), "0 7");
        Check.typed(mill, "a").term(0);
        Check.typed(mill, "z").term(0);
        mill.least(2, 2);
        Check.due("57: the document does not match", Check.passages(mill, mill.query()), "");
    }

    static void leavesInSecondParts() {
        SearchMill mill = one("a x x x x x x b x x x x x x c");
        Check.typed(mill, "a").term(0);
        Check.typed(mill, "b").term(0);
        Check.typed(mill, "z").term(0);
        mill.least(2, 2);
        mill.but();
        Check.due("57: b is in a second part", Check.passages(mill, mill.query()), "0");
        Check.typed(mill, "a").term(0);
        Check.typed(mill, "b").term(0);
        Check.typed(mill, "c").term(0);
        mill.but();
        mill.but();
        Check.due("57: b is a first part in a second part", Check.passages(mill, mill.query()), "0");
        Check.typed(mill, "a").term(0);
        Check.typed(mill, "z").term(0);
        mill.but();
        Check.typed(mill, "c").term(0);
        mill.least(2, 1);
        Check.due("57: c is behind a BUT", Check.passages(mill, mill.query()), "0 14");
        Check.typed(mill, "a").term(0);
        Check.typed(mill, "a").term(0);
        mill.but();
        Check.typed(mill, "c").term(0);
        mill.least(2, 1);
        Check.due("57: a BUT that does not match, of which the first part does", Check.passages(mill, mill.query()), "0 14");
    }

    static void leavesOfTheOtherField() {
        SearchMill mill = new SearchMill();
        Check.added(mill, 0, "x x a", "b x x x x x x a");
        mill.flush();
        mill.look(true);
        Check.typed(mill, "a").term(0);
        Check.typed(mill, "a").term(1);
        Check.typed(mill, "b").term(1);
        mill.least(3, 1);
        mill.query();
        Check.due("57: those of field 0", mill.passages(0, 0, 0, 0), 1);
        Check.due("58: in field 0", mill.passageAt(0, 0, 0, 0, 0), 2);
        Check.due("57: those of field 1", mill.passages(0, 0, 0, 1), 2);
        Check.due("58: in field 1", mill.passageAt(0, 0, 0, 1, 0), 0);
        Check.due("58: in field 1, the second", mill.passageAt(0, 0, 0, 1, 1), 7);
        Check.termQuery(mill, 0, "a");
        Check.due("57: no leaf is marked in field 1", mill.passages(0, 1, 0, 1), 0);
        Check.due("58: none", mill.passageAt(0, 1, 0, 1, 0), SearchMill.NONE);
    }

    static void noneOf() {
        SearchMill mill = Check.with("a", "b");
        Check.termQuery(mill, 0, "a");
        Check.due("57: it matches", mill.passages(0, 0, 0, 0), 1);
        Check.due("57: it does not match", mill.passages(0, 0, 1, 0), 0);
        Check.due("57: no document with the key", mill.passages(0, 0, 99, 0), 0);
        mill.delete(0);
        mill.look(true);
        Check.due("57: no live document with the key", mill.passages(1, 0, 0, 0), 0);
        Check.due("58: no live document with the key", mill.passageAt(1, 0, 0, 0, 0), SearchMill.NONE);
        Check.added(mill, 0, "x x a");
        mill.flush();
        mill.look(true);
        Check.due("58: the live one with the key", mill.passageAt(2, 0, 0, 0, 0), 2);
        Check.due("58: the old snapshot has the old one", mill.passageAt(0, 0, 0, 0, 0), 0);
    }

    static void manyLeaves() {
        SearchMill mill = one("a b c d e f g h i j k l m n o p q r s t");
        for (int part = 0; part < 3; part++) {
            for (int i = 0; i < (part == 0 ? 8 : part == 1 ? 7 : 5); i++) {
                int letter = part == 0 ? i : part == 1 ? 8 + i : 15 + i;
                Check.typed(mill, "" + (char) ('a' + letter)).term(0);
            }
            mill.least(part == 0 ? 8 : part == 1 ? 8 : 6, 1);
        }
        for (int i = 0; i < 4; i++) {
            Check.typed(mill, "t").term(0);
        }
        mill.least(5, 1);
        int query = mill.query();
        Check.due("57: 24 leaves, all places marked", Check.passages(mill, query), "0 2 8 14");
        Check.due("57: the same asked again", mill.passages(0, query, 0, 0), 4);
    }

    static void passageIndexes() {
        SearchMill mill = one("a x x x x x b x x x x x c x x x x x d");
        for (String letter : new String[] {"a", "b", "c", "d"}) {
            Check.typed(mill, letter).term(0);
        }
        mill.least(4, 1);
        mill.query();
        int[] starts = {0, 6, 12, 18};
        for (int index = 0; index < 4; index++) {
            Check.due("58: by rising places: " + index, mill.passageAt(0, 0, 0, 0, index), starts[index]);
        }
        for (int index : new int[] {4, 5, -1, -2, Integer.MIN_VALUE, Integer.MAX_VALUE}) {
            Check.due("58: not so many, or below 0: " + index, mill.passageAt(0, 0, 0, 0, index), SearchMill.NONE);
        }
    }

    static void passagesRefused() {
        Supplier<SearchMill> made = EdgesOfPassages::ten;
        for (int key : new int[] {-1, 100, Integer.MIN_VALUE, Integer.MAX_VALUE}) {
            Check.refused("57: key " + key, Check.INDEX, made, mill -> mill.passages(0, 0, key, 0));
            Check.refused("58: key " + key, Check.INDEX, made, mill -> mill.passageAt(0, 0, key, 0, 0));
        }
        for (int field : new int[] {-1, 2, Integer.MIN_VALUE, Integer.MAX_VALUE}) {
            Check.refused("57: field " + field, Check.INDEX, made, mill -> mill.passages(0, 0, 99, field));
            Check.refused("58: field " + field, Check.INDEX, made, mill -> mill.passageAt(0, 0, 99, field, 0));
            Check.refused("57: field " + field + ", no such document", Check.INDEX, made,
                mill -> mill.passages(0, 0, 50, field));
            Check.refused("58: field " + field + ", index -1", Check.INDEX, made,
                mill -> mill.passageAt(0, 0, 50, field, -1));
        }
        Check.unchanged("57 and 58: questions change nothing", made, mill -> {
            mill.passages(0, 0, 99, 0);
            mill.passageAt(0, 0, 99, 0, 0);
            mill.passageAt(0, 0, 99, 0, 9);
        });
    }
}
