/** Promises 36 to 46: leaves, groups, queries, weights. */
public final class QueryPromises {
    public static void main(String[] args) {
        term();
        phrase();
        near();
        prefix();
        wild();
        fuzzy();
        limits();
        least();
        but();
        query();
        scrap();
        weigh();
        stopsAndSynonyms();
        Check.end();
    }

    static void term() {
        SearchMill mill = Check.with("cat dog", "dogs", "cat", "");
        Check.fails("36: an empty pad", Check.STATE, () -> mill.term(0));
        Check.typed(mill, "dogged");
        Check.fails("36: field 2", Check.INDEX, () -> mill.term(2));
        Check.fails("36: field -1", Check.INDEX, () -> mill.term(-1));
        Check.due("36: a part", mill.term(0), 1);
        Check.due("36: the pad is empty", mill.wipe(), 0);
        Check.due("36: dogg", Check.keys(mill), 0);
        Check.typed(mill, "-DOGS-").term(0);
        Check.due("36: dog", Check.keys(mill), 0b0011);
        Check.typed(mill, "cat").term(1);
        Check.due("36: the other field", Check.keys(mill), 0);
        Check.typed(mill, "cat dog");
        Check.fails("36: two tokens", Check.STATE, () -> mill.term(0));
        Check.fails("36: two tokens and no such field", Check.INDEX, () -> mill.term(2));
        Check.due("36: the pad stays", mill.wipe(), 7);
        Check.due("36: no part was put", mill.scrap(), 0);
    }

    static void phrase() {
        SearchMill mill = Check.with("a b c", "a x b c", "b a c", "a a b", "a b x x c", "c b a");
        Check.fails("37: an empty pad", Check.STATE, () -> mill.phrase(0, 0));
        Check.typed(mill, "a b");
        Check.fails("37: field 2", Check.INDEX, () -> mill.phrase(2, 0));
        Check.fails("37: slop -1", Check.ARGUMENT, () -> mill.phrase(0, -1));
        Check.fails("37: slop 21", Check.ARGUMENT, () -> mill.phrase(0, 21));
        Check.fails("37: field and slop", Check.INDEX, () -> mill.phrase(2, 21));
        mill.phrase(0, 0);
        Check.due("37: a b", Check.keys(mill), 0b011001);
        Check.typed(mill, "a b").phrase(0, 1);
        Check.due("37: a b, slop 1", Check.keys(mill), 0b011011);
        Check.typed(mill, "a b c").phrase(0, 1);
        Check.due("37: a b c, slop 1", Check.keys(mill), 0b000011);
        Check.typed(mill, "a b c").phrase(0, 2);
        Check.due("37: a b c, slop 2", Check.keys(mill), 0b010011);
        Check.typed(mill, "a ... b").phrase(0, 0);
        Check.due("37: signs are no places", Check.keys(mill), 0b011001);
        Check.typed(mill, "a a").phrase(0, 0);
        Check.due("37: the same token twice", Check.keys(mill), 0b001000);
        Check.typed(mill, "c").phrase(0, 0);
        Check.due("37: one token", Check.keys(mill), 0b110111);
        Check.typed(mill, "a b").phrase(0, 20);
        Check.due("37: never ahead", Check.keys(mill), 0b011011);
        Check.typed(mill, "a b c d e f").phrase(0, 20);
        Check.due("37: six tokens", Check.keys(mill), 0);
        Check.typed(mill, "a b c d e f g");
        Check.fails("37: seven tokens", Check.STATE, () -> mill.phrase(0, 0));
        Check.fails("37: seven tokens and slop", Check.ARGUMENT, () -> mill.phrase(0, 21));
    }

    static void near() {
        SearchMill mill = Check.with("a b", "b a", "a x b", "b x x a", "a", "a a", "b");
        Check.typed(mill, "a");
        Check.fails("38: one token", Check.STATE, () -> mill.near(0, 1, true));
        Check.typed(mill, " b");
        Check.fails("38: field -1", Check.INDEX, () -> mill.near(-1, 1, true));
        Check.fails("38: distance 0", Check.ARGUMENT, () -> mill.near(0, 0, true));
        Check.fails("38: distance 21", Check.ARGUMENT, () -> mill.near(0, 21, true));
        Check.fails("38: field and distance", Check.INDEX, () -> mill.near(2, 0, true));
        mill.near(0, 1, true);
        Check.due("38: in order", Check.keys(mill), 0b0000001);
        Check.typed(mill, "a b").near(0, 1, false);
        Check.due("38: not in order", Check.keys(mill), 0b0000011);
        Check.typed(mill, "a b").near(0, 2, false);
        Check.due("38: distance 2", Check.keys(mill), 0b0000111);
        Check.typed(mill, "a b").near(0, 20, true);
        Check.due("38: in order, distance 20", Check.keys(mill), 0b0000101);
        Check.typed(mill, "a b").near(0, 20, false);
        Check.due("38: distance 20", Check.keys(mill), 0b0001111);
        Check.typed(mill, "a a").near(0, 20, false);
        Check.due("38: the same token at two places", Check.keys(mill), 0b0100000);
        Check.typed(mill, "a b c");
        Check.fails("38: three tokens", Check.STATE, () -> mill.near(0, 1, false));
    }

    static void prefix() {
        SearchMill mill = Check.with("caring", "cars", "ca", "c", "x car", "abcdefghijklm", "cat");
        Check.fails("39: an empty pad", Check.STATE, () -> mill.prefix(0));
        Check.typed(mill, "CAR");
        Check.fails("39: field 2", Check.INDEX, () -> mill.prefix(2));
        mill.prefix(0);
        Check.due("39: car", Check.keys(mill), 0b0010011);
        Check.typed(mill, "cars").prefix(0);
        Check.due("39: a word, not its stem", Check.keys(mill), 0);
        Check.typed(mill, "c").prefix(0);
        Check.due("39: c", Check.keys(mill), 0b1011111);
        Check.typed(mill, "abcdefghijklzzz").prefix(0);
        Check.due("39: the first 12 signs count", Check.keys(mill), 0b0100000);
        Check.typed(mill, "c a");
        Check.fails("39: two words", Check.STATE, () -> mill.prefix(0));
        Check.fails("39: two words and no such field", Check.INDEX, () -> mill.prefix(-1));
    }

    static void wild() {
        SearchMill mill = Check.with("cat", "cut", "ct", "coat", "cart9", "abcdefghijkl");
        Check.fails("40: an empty pad", Check.STATE, () -> mill.wild(0));
        Check.typed(mill, "C?t");
        Check.fails("40: field 2", Check.INDEX, () -> mill.wild(2));
        mill.wild(0);
        Check.due("40: C?t", Check.keys(mill), 0b000011);
        Check.typed(mill, "c*t").wild(0);
        Check.due("40: c*t", Check.keys(mill), 0b001111);
        Check.typed(mill, "c*t*").wild(0);
        Check.due("40: c*t*", Check.keys(mill), 0b011111);
        Check.typed(mill, "*").wild(0);
        Check.due("40: *", Check.keys(mill), 0b111111);
        Check.typed(mill, "?").wild(0);
        Check.due("40: ?", Check.keys(mill), 0);
        Check.typed(mill, "*?*??").wild(0);
        Check.due("40: three signs or more", Check.keys(mill), 0b111011);
        Check.typed(mill, "cat").wild(0);
        Check.due("40: cat", Check.keys(mill), 0b000001);
        Check.typed(mill, "????????????").wild(0);
        Check.due("40: twelve", Check.keys(mill), 0b100000);
        Check.typed(mill, "*************");
        Check.fails("40: thirteen signs", Check.STATE, () -> mill.wild(0));
        mill.wipe();
        Check.typed(mill, "c t");
        Check.fails("40: a blank", Check.STATE, () -> mill.wild(0));
        Check.fails("40: a blank and no such field", Check.INDEX, () -> mill.wild(2));
        mill.wipe();
        Check.typed(mill, "c.t");
        Check.fails("40: a dot", Check.STATE, () -> mill.wild(0));
    }

    static void fuzzy() {
        SearchMill mill = Check.with("cat", "cart", "at", "dog", "cut", "tac", "caters");
        Check.fails("41: an empty pad", Check.STATE, () -> mill.fuzzy(0, 1));
        Check.typed(mill, "Cat");
        Check.fails("41: field 2", Check.INDEX, () -> mill.fuzzy(2, 0));
        Check.fails("41: edits -1", Check.ARGUMENT, () -> mill.fuzzy(0, -1));
        Check.fails("41: edits 3", Check.ARGUMENT, () -> mill.fuzzy(0, 3));
        Check.fails("41: field and edits", Check.INDEX, () -> mill.fuzzy(-1, 3));
        mill.fuzzy(0, 0);
        Check.due("41: no edits", Check.keys(mill), 0b0000001);
        Check.typed(mill, "cat").fuzzy(0, 1);
        Check.due("41: one edit", Check.keys(mill), 0b0010111);
        Check.typed(mill, "cat").fuzzy(0, 2);
        Check.due("41: two edits", Check.keys(mill), 0b1110111);
        Check.typed(mill, "caters").fuzzy(0, 1);
        Check.due("41: the word, not its stem", Check.keys(mill), 0b1000000);
        Check.typed(mill, "a b");
        Check.fails("41: two words", Check.STATE, () -> mill.fuzzy(0, 0));
        Check.fails("41: two words and edits", Check.ARGUMENT, () -> mill.fuzzy(0, 3));
    }

    static void limits() {
        SearchMill mill = new SearchMill();
        for (int i = 1; i <= 8; i++) {
            Check.due("36: part " + i, Check.typed(mill, "a").term(0), i);
        }
        Check.typed(mill, "a");
        Check.fails("36: eight parts", Check.STATE, () -> mill.term(0));
        Check.fails("37: eight parts", Check.STATE, () -> mill.phrase(0, 0));
        Check.fails("39: eight parts", Check.STATE, () -> mill.prefix(0));
        Check.fails("40: eight parts", Check.STATE, () -> mill.wild(0));
        Check.fails("41: eight parts", Check.STATE, () -> mill.fuzzy(0, 0));
        Check.typed(mill, " b");
        Check.fails("38: eight parts", Check.STATE, () -> mill.near(0, 1, true));
        mill.wipe();
        mill.least(8, 8);
        for (int i = 0; i < 7; i++) {
            Check.typed(mill, "a").wild(0);
        }
        mill.least(8, 1);
        for (int i = 0; i < 7; i++) {
            Check.typed(mill, "a").prefix(0);
        }
        mill.least(8, 1);
        Check.due("36: 22 and 1", Check.typed(mill, "a").term(0), 2);
        Check.due("36: 23 and 1", Check.typed(mill, "a").term(0), 3);
        Check.typed(mill, "a");
        Check.fails("36: 24 leaves", Check.STATE, () -> mill.term(0));
        Check.fails("37: 24 leaves", Check.STATE, () -> mill.phrase(0, 0));
        Check.fails("39: 24 leaves", Check.STATE, () -> mill.prefix(0));
        Check.fails("40: 24 leaves", Check.STATE, () -> mill.wild(0));
        Check.fails("41: 24 leaves", Check.STATE, () -> mill.fuzzy(0, 0));
        Check.typed(mill, " b");
        Check.fails("38: 24 leaves", Check.STATE, () -> mill.near(0, 1, true));
        mill.wipe();
        mill.least(3, 1);
        mill.query();
        Check.due("36: a new query", Check.typed(mill, "a").term(0), 1);
    }

    static void least() {
        SearchMill mill = Check.with("a", "a b", "a b c", "c", "");
        Check.fails("42: parts 1", Check.ARGUMENT, () -> mill.least(1, 1));
        Check.fails("42: parts 9", Check.ARGUMENT, () -> mill.least(9, 1));
        Check.fails("42: least 0", Check.ARGUMENT, () -> mill.least(2, 0));
        Check.fails("42: least 3 of 2", Check.ARGUMENT, () -> mill.least(2, 3));
        Check.fails("42: no parts", Check.STATE, () -> mill.least(2, 1));
        int[] due = {0b01111, 0b00110, 0b00100};
        for (int least = 1; least <= 3; least++) {
            Check.typed(mill, "a").term(0);
            Check.typed(mill, "b").term(0);
            Check.fails("42: fewer parts", Check.STATE, () -> mill.least(3, 1));
            Check.typed(mill, "c").term(0);
            Check.due("42: one part", mill.least(3, least), 1);
            Check.due("42: least " + least, Check.keys(mill), due[least - 1]);
        }
        Check.typed(mill, "c").term(0);
        Check.typed(mill, "a").term(0);
        Check.typed(mill, "b").term(0);
        Check.due("42: the last ones", mill.least(2, 2), 2);
        mill.least(2, 1);
        Check.due("42: c, or a and b", Check.keys(mill), 0b01110);
    }

    static void but() {
        SearchMill mill = Check.with("a", "a b", "b", "a c", "");
        Check.fails("43: no parts", Check.STATE, () -> mill.but());
        Check.typed(mill, "a").term(0);
        Check.fails("43: one part", Check.STATE, () -> mill.but());
        Check.typed(mill, "b").term(0);
        Check.due("43: one part then", mill.but(), 1);
        Check.due("43: a without b", Check.keys(mill), 0b01001);
        Check.typed(mill, "b").term(0);
        Check.typed(mill, "a").term(0);
        mill.but();
        Check.due("43: b without a", Check.keys(mill), 0b00100);
        Check.typed(mill, "a").term(0);
        Check.typed(mill, "a").term(0);
        Check.typed(mill, "b").term(0);
        mill.but();
        Check.due("43: two parts then", mill.but() + mill.scrap(), 2);
        Check.typed(mill, "a").term(0);
        Check.typed(mill, "a").term(0);
        Check.typed(mill, "b").term(0);
        mill.but();
        mill.but();
        Check.due("43: a without (a without b)", Check.keys(mill), 0b00010);
    }

    static void query() {
        SearchMill mill = new SearchMill();
        Check.fails("44: no part", Check.STATE, () -> mill.query());
        Check.typed(mill, "a").term(0);
        Check.typed(mill, "a").term(0);
        Check.fails("44: two parts", Check.STATE, () -> mill.query());
        mill.but();
        Check.due("44: the first", mill.query(), 0);
        Check.due("44: no parts then", mill.scrap(), 0);
        for (int i = 1; i < 40; i++) {
            Check.due("44: query " + i, Check.termQuery(mill, 0, "a"), i);
        }
        Check.typed(mill, "a").term(0);
        Check.fails("44: 40 queries", Check.STATE, () -> mill.query());
        Check.due("44: the part stays", mill.scrap(), 1);
    }

    static void scrap() {
        SearchMill mill = new SearchMill();
        Check.due("45: none", mill.scrap(), 0);
        Check.typed(mill, "a").term(0);
        Check.typed(mill, "a").term(0);
        Check.typed(mill, "a").term(0);
        mill.least(2, 1);
        Check.due("45: two", mill.scrap(), 2);
        Check.due("45: none any more", mill.scrap(), 0);
        Check.due("45: the next one", Check.typed(mill, "a").term(0), 1);
    }

    static void weigh() {
        SearchMill mill = Check.with("a", "b");
        Check.fails("46: field 2", Check.INDEX, () -> mill.weigh(2, 1));
        Check.fails("46: field -1", Check.INDEX, () -> mill.weigh(-1, 0));
        Check.fails("46: weight 0", Check.ARGUMENT, () -> mill.weigh(0, 0));
        Check.fails("46: weight 10", Check.ARGUMENT, () -> mill.weigh(1, 10));
        Check.due("46: 3 at first", mill.weigh(0, 9), 3);
        Check.due("46: 1 at first", mill.weigh(1, 2), 1);
        Check.due("46: 9", mill.weigh(0, 5), 9);
        Check.termQuery(mill, 0, "a");
        Check.due("46: 5 times 32", mill.rankByScan(0, 0, 0), 160);
        mill.weigh(0, 1);
        Check.due("46: it counts when it is asked", mill.rankByScan(0, 0, 0), 32);
    }

    static void stopsAndSynonyms() {
        SearchMill mill = new SearchMill();
        Check.typed(mill, "the").stop();
        Check.typed(mill, "dog hound").synonym();
        Check.added(mill, 0, "the dog ran");
        Check.added(mill, 1, "a hound ran");
        Check.added(mill, 2, "the the ran");
        mill.flush();
        mill.look(true);
        Check.typed(mill, "the hound");
        Check.due("36: one token beside a stop word", mill.term(0), 1);
        Check.due("36: a synonym of the text", Check.keys(mill), 0b011);
        Check.typed(mill, "dog").term(0);
        Check.due("36: none of the pad", Check.keys(mill), 0b001);
        Check.typed(mill, "the");
        Check.fails("36: a stop word alone", Check.STATE, () -> mill.term(0));
        Check.fails("37: a stop word alone", Check.STATE, () -> mill.phrase(0, 0));
        Check.due("39: a stop word is a word", mill.prefix(0), 1);
        Check.due("39: but no token", Check.keys(mill), 0);
        Check.typed(mill, "the").fuzzy(0, 2);
        Check.due("41: no token is like it", Check.keys(mill), 0);
        Check.typed(mill, "dog the ran").phrase(0, 0);
        Check.due("37: a stop word has its place", Check.keys(mill), 0);
        Check.typed(mill, "hound ran").phrase(0, 0);
        Check.due("37: synonyms have the same place", Check.keys(mill), 0b011);
        Check.typed(mill, "dog the hound").near(0, 3, false);
        Check.due("38: two tokens at the same place are not apart", Check.keys(mill), 0);
    }
}
