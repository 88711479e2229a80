/** Promises 52 to 58: plain questions and passages. */
public final class QuestionPromises {
    public static void main(String[] args) {
        rankByScan();
        matches();
        facet();
        sortedAt();
        passages();
        passageLeaves();
        passageChoice();
        Check.end();
    }

    static void rankByScan() {
        SearchMill mill = Check.with("a", "b");
        Check.fails("52: no query", Check.INDEX, () -> mill.rankByScan(0, 0, 0));
        Check.termQuery(mill, 0, "a");
        Check.fails("52: snapshot 1", Check.INDEX, () -> mill.rankByScan(1, 0, 0));
        Check.fails("52: query -1", Check.INDEX, () -> mill.rankByScan(0, -1, 0));
        Check.fails("52: key 100", Check.INDEX, () -> mill.rankByScan(0, 0, 100));
        Check.fails("52: key -1", Check.INDEX, () -> mill.rankByScan(0, 0, -1));
        Check.due("52: a", mill.rankByScan(0, 0, 0), 96);
        Check.due("52: it does not match", mill.rankByScan(0, 0, 1), SearchMill.NONE);
        Check.due("52: no such document", mill.rankByScan(0, 0, 99), SearchMill.NONE);
        mill.delete(0);
        Check.added(mill, 1, "a a");
        mill.flush();
        mill.look(true);
        Check.due("52: not live", mill.rankByScan(1, 0, 0), SearchMill.NONE);
        Check.due("52: the live one with the key", mill.rankByScan(1, 0, 1), 126);
        Check.due("52: as it was", mill.rankByScan(0, 0, 1), SearchMill.NONE);
    }

    static void matches() {
        SearchMill mill = Check.with("a", "b", "a b");
        Check.termQuery(mill, 0, "a");
        Check.fails("53: snapshot 1", Check.INDEX, () -> mill.matches(1, 0));
        Check.fails("53: query 1", Check.INDEX, () -> mill.matches(0, 1));
        Check.fails("54: snapshot 1", Check.INDEX, () -> mill.matchesByScan(1, 0));
        Check.fails("54: query -1", Check.INDEX, () -> mill.matchesByScan(0, -1));
        Check.due("53: two", mill.matches(0, 0), 2);
        Check.due("54: two", mill.matchesByScan(0, 0), 2);
        mill.delete(2);
        Check.added(mill, 9, "a");
        mill.look(true);
        Check.due("53: live ones, without the buffer", mill.matches(1, 0), 1);
        Check.due("54: live ones, without the buffer", mill.matchesByScan(1, 0), 1);
        Check.due("53: as it was", mill.matches(0, 0), 2);
        Check.due("54: as it was", mill.matchesByScan(0, 0), 2);
    }

    static void facet() {
        SearchMill mill = new SearchMill();
        for (int i = 0; i < 6; i++) {
            mill.columns(i % 2 == 0 ? 9 : 3, i);
            Check.added(mill, i, i < 5 ? "a" : "b");
        }
        mill.flush();
        mill.delete(0);
        mill.look(true);
        Check.termQuery(mill, 0, "a");
        Check.due("55: 2 and 4", mill.facet(0, 0, 9), 2);
        Check.due("55: 1 and 3", mill.facet(0, 0, 3), 2);
        Check.due("55: none", mill.facet(0, 0, 0), 0);
        Check.fails("55: category 10", Check.ARGUMENT, () -> mill.facet(0, 0, 10));
        Check.fails("55: category -1", Check.ARGUMENT, () -> mill.facet(0, 0, -1));
        Check.fails("55: snapshot and category", Check.INDEX, () -> mill.facet(1, 0, 10));
        Check.fails("55: query and category", Check.INDEX, () -> mill.facet(0, 1, -1));
    }

    static void sortedAt() {
        SearchMill mill = new SearchMill();
        int[] numbers = {5, 999, 5, 0, 5, 7};
        for (int i = 0; i < numbers.length; i++) {
            mill.columns(0, numbers[i]);
            Check.added(mill, i, i == 5 ? "b" : "a");
            if (i == 2) {
                mill.flush();
            }
        }
        mill.flush();
        mill.look(true);
        Check.termQuery(mill, 0, "a");
        int[] rising = {3, 0, 2, 4, 1};
        int[] falling = {1, 0, 2, 4, 3};
        for (int i = 0; i < 5; i++) {
            Check.due("56: rising, place " + i, mill.sortedAt(0, 0, false, i), rising[i]);
            Check.due("56: falling, place " + i, mill.sortedAt(0, 0, true, i), falling[i]);
        }
        Check.fails("56: place 5", Check.INDEX, () -> mill.sortedAt(0, 0, true, 5));
        Check.fails("56: place -1", Check.INDEX, () -> mill.sortedAt(0, 0, false, -1));
        Check.fails("56: snapshot 1", Check.INDEX, () -> mill.sortedAt(1, 0, false, 0));
        Check.fails("56: query 1", Check.INDEX, () -> mill.sortedAt(0, 1, false, 0));
        mill.delete(0);
        mill.look(true);
        Check.due("56: live ones", mill.sortedAt(1, 0, false, 1), 2);
    }

    static void passages() {
        SearchMill mill = Check.with("a x x x x x a", "b");
        Check.termQuery(mill, 0, "a");
        Check.termQuery(mill, 1, "a");
        Check.due("57: one", mill.passages(0, 0, 0, 0), 1);
        Check.due("58: the first place", mill.passageAt(0, 0, 0, 0, 0), 0);
        Check.due("58: not so many", mill.passageAt(0, 0, 0, 0, 1), SearchMill.NONE);
        Check.due("58: index -1", mill.passageAt(0, 0, 0, 0, -1), SearchMill.NONE);
        Check.typed(mill, "a").term(0);
        Check.typed(mill, "z").term(0);
        mill.least(2, 2);
        mill.query();
        Check.due("57: a leaf matches, but not the query", mill.passages(0, 2, 0, 0), 0);
        Check.due("57: no leaf is marked in the other field", mill.passages(0, 0, 0, 1), 0);
        Check.due("57: it does not match", mill.passages(0, 0, 1, 0), 0);
        Check.due("57: it does not match either", mill.passages(0, 1, 0, 1), 0);
        Check.due("57: no such document", mill.passages(0, 0, 50, 0), 0);
        Check.due("58: no such document", mill.passageAt(0, 0, 50, 0, 0), SearchMill.NONE);
        Check.fails("57: snapshot", Check.INDEX, () -> mill.passages(1, 0, 0, 0));
        Check.fails("57: query", Check.INDEX, () -> mill.passages(0, 3, 0, 0));
        Check.fails("57: key", Check.INDEX, () -> mill.passages(0, 0, 100, 0));
        Check.fails("57: key -1", Check.INDEX, () -> mill.passages(0, 0, -1, 0));
        Check.fails("57: field", Check.INDEX, () -> mill.passages(0, 0, 0, 2));
        Check.fails("58: snapshot", Check.INDEX, () -> mill.passageAt(-1, 0, 0, 0, 0));
        Check.fails("58: query", Check.INDEX, () -> mill.passageAt(0, -1, 0, 0, 0));
        Check.fails("58: key", Check.INDEX, () -> mill.passageAt(0, 0, 100, 0, 0));
        Check.fails("58: field, and index -1", Check.INDEX, () -> mill.passageAt(0, 0, 0, -1, -1));
        mill.delete(0);
        mill.look(true);
        Check.due("57: not live", mill.passages(1, 0, 0, 0), 0);
        Check.due("57: as it was", mill.passages(0, 0, 0, 0), 1);
    }

    static int any(SearchMill mill, String words) {
        for (int i = 0; i < words.length(); i++) {
            Check.typed(mill, words.substring(i, i + 1)).term(0);
        }
        mill.least(words.length(), 1);
        return mill.query();
    }

    static void passageLeaves() {
        SearchMill mill = Check.with("p x x x x x x x a b x x x x x dog");
        Check.typed(mill, "p b").near(0, 20, true);
        mill.query();
        Check.due("57: NEAR is marked at its first token", mill.passageAt(0, 0, 0, 0, 0), 0);
        Check.typed(mill, "a b").phrase(0, 0);
        mill.query();
        Check.due("57: PHRASE is marked at its first token", mill.passageAt(0, 1, 0, 0, 0), 8);
        Check.typed(mill, "d*").wild(0);
        mill.query();
        Check.due("57: WILD", mill.passageAt(0, 2, 0, 0, 0), 15);
        Check.typed(mill, "dag").fuzzy(0, 1);
        mill.query();
        Check.due("57: FUZZY", mill.passageAt(0, 3, 0, 0, 0), 15);
        Check.typed(mill, "b").term(0);
        Check.typed(mill, "p").term(0);
        Check.typed(mill, "z").term(0);
        mill.least(2, 2);
        mill.but();
        mill.query();
        Check.due("57: second parts are left aside", mill.passages(0, 4, 0, 0), 1);
        Check.due("58: b", mill.passageAt(0, 4, 0, 0, 0), 9);
        Check.typed(mill, "b").term(0);
        Check.typed(mill, "p").term(0);
        Check.typed(mill, "z").term(0);
        mill.least(2, 2);
        mill.least(2, 1);
        mill.query();
        Check.due("57: a leaf that matches in a group that does not", mill.passages(0, 5, 0, 0), 2);
        Check.typed(mill, "x").prefix(0);
        mill.query();
        Check.due("57: one of many marked places", mill.passages(0, 6, 0, 0), 1);
        Check.due("58: the earliest", mill.passageAt(0, 6, 0, 0, 0), 1);
    }

    static void passageChoice() {
        SearchMill mill = Check.with("a x x x x b x x x x c x x x x d", "a x x x x x b x x x x x c x x x x x d",
            "a x x x x x x b a x x x x x x c", "x a x x b x x x c x a");
        int all = any(mill, "abcd");
        Check.due("57: a and b, c and d", mill.passages(0, all, 0, 0), 2);
        Check.due("58: a", mill.passageAt(0, all, 0, 0, 0), 0);
        Check.due("58: c", mill.passageAt(0, all, 0, 0, 1), 10);
        Check.due("57: six places apart", mill.passages(0, all, 1, 0), 4);
        Check.due("58: the last", mill.passageAt(0, all, 1, 0, 3), 18);
        Check.due("58: no fifth", mill.passageAt(0, all, 1, 0, 4), SearchMill.NONE);
        Check.due("57: the second a lies with b", mill.passages(0, all, 2, 0), 2);
        Check.due("58: b", mill.passageAt(0, all, 2, 0, 0), 7);
        Check.due("58: c behind it", mill.passageAt(0, all, 2, 0, 1), 15);
        int abc = any(mill, "abc");
        Check.due("57: two do", mill.passages(0, abc, 0, 0), 2);
        Check.due("58: the earlier one of sets", mill.passageAt(0, abc, 0, 0, 0), 0);
        Check.due("58: c alone, b is there already, but b comes earlier", mill.passageAt(0, abc, 0, 0, 1), 5);
        Check.due("57: b and c and the second a are not in one", mill.passages(0, abc, 3, 0), 2);
        Check.due("58: the first a", mill.passageAt(0, abc, 3, 0, 0), 1);
        Check.due("58: and b, with c", mill.passageAt(0, abc, 3, 0, 1), 4);
    }
}
