/** The edges that the document names under "Signs, words, tokens" and in the promises 1 to 7, sentence by sentence. */
public final class EdgesOfTexts {
    public static void main(String[] args) {
        padOfUpTo40Signs();
        codes32To126();
        emptyAtFirst();
        wordSigns();
        capitalsCountAsSmallOnes();
        first12Signs();
        greatestRuns();
        placesFrom0();
        stemsOfIng();
        stemsOfEd();
        stemsOfS();
        stemsOfCutWords();
        oneRuleAlone();
        stopWordIsAStem();
        tenStopWords();
        onlyOneWordIsAStop();
        tenSynonyms();
        onlyTwoWordsAreASynonym();
        tokenAtThisPlaceAlready();
        synonymsOfTheFirstStem();
        stopWordsHaveTheirPlaces();
        addedAtSomeTime();
        textsToldAheadOfRules();
        textTakesThePad();
        wipes();
        Check.end();
    }

    static void padOfUpTo40Signs() {
        SearchMill mill = new SearchMill();
        for (int i = 1; i <= 40; i++) {
            Check.due("up to 40 signs: sign " + i, mill.type('x'), i);
        }
        Check.fails("up to 40 signs: the 41st", Check.STATE, () -> mill.type('x'));
        Check.fails("up to 40 signs: the 42nd", Check.STATE, () -> mill.type('x'));
        Check.due("up to 40 signs: all of them", mill.wipe(), 40);
        Check.due("up to 40 signs: room again", mill.type('x'), 1);
        SearchMill other = Check.typed(new SearchMill(), "a b c d e f g h i j k l m n o p q r s tu");
        Check.fails("up to 40 signs: 40 and one", Check.STATE, () -> other.type('v'));
        other.text(0);
        other.add(0);
        other.flush();
        Check.due("the 40th sign counts", Check.wordAt(other, 0, 0, 19), "tu");
    }

    static void codes32To126() {
        SearchMill mill = new SearchMill();
        for (char sign = 32; sign <= 126; sign++) {
            Check.due("codes 32 to 126: " + (int) sign, mill.type(sign), 1);
            mill.wipe();
        }
        for (int sign : new int[] {0, 9, 10, 31, 127, 128, 160, 233, 255, 256, 32767, 65535}) {
            Check.fails("codes 32 to 126: " + sign, Check.ARGUMENT, () -> mill.type((char) sign));
        }
        Check.due("codes 32 to 126: nothing was typed", mill.wipe(), 0);
    }

    static void emptyAtFirst() {
        Check.due("the pad is empty at first", new SearchMill().wipe(), 0);
        Check.due("empty: no tokens", new SearchMill().text(1), 0);
        Check.due("empty: the first sign", new SearchMill().type('~'), 1);
    }

    static void wordSigns() {
        SearchMill mill = new SearchMill();
        for (char sign = 32; sign <= 126; sign++) {
            boolean isWordSign = Character.isLetterOrDigit(sign);
            Check.typed(mill, "a" + sign + "a");
            Check.due("letters and digits are word signs: " + sign, mill.text(0), isWordSign ? 1 : 2);
        }
        SearchMill other = new SearchMill();
        Check.added(other, 0, "/0:9;@A[`z{_");
        other.flush();
        Check.due("the first and the last of them, and those beside them", Check.words(other), "0 9 a z");
    }

    static void capitalsCountAsSmallOnes() {
        SearchMill mill = new SearchMill();
        Check.added(mill, 0, "ABCDEFGHIJKL MNOPQRSTUVWX YZ");
        mill.flush();
        Check.due("capital letters", Check.words(mill), "abcdefghijkl mnopqrstuvwx yz");
        SearchMill other = new SearchMill();
        Check.typed(other, "THE").stop();
        Check.typed(other, "DOG Hound").synonym();
        Check.due("everywhere: a stop word", Check.typed(other, "the The x").text(0), 1);
        Check.due("everywhere: synonyms", Check.typed(other, "dog DoG").text(0), 4);
        other.add(0);
        Check.added(other, 1, "CATS RUNNING");
        other.flush();
        other.look(true);
        Check.typed(other, "HOUND").term(0);
        Check.due("everywhere: TERM", Check.keys(other), 0b01);
        Check.typed(other, "Cats runnING").phrase(0, 0);
        Check.due("everywhere: PHRASE", Check.keys(other), 0b10);
        Check.typed(other, "RUNNed Cat").near(0, 1, false);
        Check.due("everywhere: NEAR", Check.keys(other), 0b10);
        Check.typed(other, "CA").prefix(0);
        Check.due("everywhere: PREFIX", Check.keys(other), 0b10);
        Check.typed(other, "C?T").wild(0);
        Check.due("everywhere: WILD", Check.keys(other), 0b10);
        Check.typed(other, "CAT").fuzzy(0, 0);
        Check.due("everywhere: FUZZY", Check.keys(other), 0b10);
    }

    static void first12Signs() {
        SearchMill mill = new SearchMill();
        Check.added(mill, 0, "abcdefghijk abcdefghijkl", "abcdefghijklm zzzzzzzzzzzzzzzz");
        Check.added(mill, 1, "abcdefghijkm");
        Check.added(mill, 2, "abcdefghijklmnopqrstuvwxyz0123456789ABCD");
        mill.flush();
        mill.look(true);
        Check.due("11 and 12 signs, and those of 40", Check.words(mill), "abcdefghijk abcdefghijkl abcdefghijkm");
        Check.due("12 of 13 signs", Check.wordAt(mill, 0, 1, 0), "abcdefghijkl");
        Check.due("12 of 16 signs", Check.wordAt(mill, 0, 1, 1), "zzzzzzzzzzzz");
        Check.typed(mill, "abcdefghijklxyz").term(0);
        Check.due("the first 12 signs count: TERM", Check.keys(mill), 0b101);
        Check.typed(mill, "abcdefghijkxyz").term(0);
        Check.due("the twelfth sign counts", Check.keys(mill), 0);
        Check.typed(mill, "abcdefghijklxyz").prefix(0);
        Check.due("the first 12 signs count: PREFIX", Check.keys(mill), 0b101);
        Check.typed(mill, "abcdefghijklxyz").fuzzy(0, 0);
        Check.due("the first 12 signs count: FUZZY", Check.keys(mill), 0b101);
        SearchMill other = new SearchMill();
        Check.typed(other, "zzzzzzzzzzzz1").stop();
        Check.due("the first 12 signs count: stop", Check.typed(other, "zzzzzzzzzzzz2 zzzzzzzzzzz").text(0), 1);
    }

    static void greatestRuns() {
        SearchMill mill = new SearchMill();
        Check.due("no words", Check.typed(mill, "  --  ").text(0), 0);
        Check.due("signs at both ends are no words", Check.typed(mill, " a ").text(0), 1);
        Check.due("one sign between them", Check.typed(mill, "a-b").text(0), 2);
        Check.due("many signs between them", Check.typed(mill, "a - - b").text(0), 2);
        Check.due("a word at the very end", Check.typed(mill, "-b").text(0), 1);
        Check.due("a run of 40", Check.typed(mill, "1234567890123456789012345678901234567890").text(0), 1);
        Check.due("20 words", Check.typed(mill, "a b c d e f g h i j k l m n o p q r s t ").text(0), 20);
        Check.due("20 words, a sign ahead", Check.typed(mill, " a b c d e f g h i j k l m n o p q r s t").text(0), 20);
    }

    static void placesFrom0() {
        SearchMill mill = new SearchMill();
        Check.added(mill, 0, "--a- b,,c a a a a a a a a a a a a a a");
        mill.flush();
        // a: places 0 and 3 to 16; b: place 1; c: place 2.
        Check.bits("the second place is 1", mill, 1, "0001 0 0 1");
        Check.bits("the third place is 2", mill, 2, "0010 00 00 10");
        SearchMill other = new SearchMill();
        Check.added(other, 0, "a a a a a a a a a a a a a a a a a a a z ");
        other.flush();
        other.look(true);
        Check.bits("the last place is 19", other, 1, "0101 00000 00000 10011");
        Check.typed(other, "z").term(0);
        Check.due("a token at the last place", Check.keys(other), 1);
        Check.typed(other, "a z").phrase(0, 0);
        Check.due("a phrase that ends at the last place", Check.keys(other), 1);
        Check.typed(other, "z a").near(0, 1, false);
        Check.due("a neighbour of the last place", Check.keys(other), 1);
    }

    static void stem(String word, String stem) {
        SearchMill mill = new SearchMill();
        Check.added(mill, 0, word);
        mill.flush();
        Check.due("the stem of " + word, Check.words(mill), stem);
    }

    static void stemsOfIng() {
        stem("ing", "ing");
        stem("king", "king");
        stem("being", "being");
        stem("baking", "bak");
        stem("BAKING", "bak");
        stem("123ing", "123");
        stem("12ing", "12ing");
        stem("inging", "ing");
        stem("abcdefghiing", "abcdefghi");
        stem("bakinG1", "baking1");
        stem("bakint", "bakint");
        stem("bakung", "bakung");
        stem("bakixg", "bakixg");
    }

    static void stemsOfEd() {
        stem("ed", "ed");
        stem("red", "red");
        stem("shed", "shed");
        stem("baked", "bak");
        stem("123ed", "123");
        stem("12ed", "12ed");
        stem("edited", "edit");
        stem("abcdefghijed", "abcdefghij");
        stem("bakad", "bakad");
        stem("baket", "baket");
    }

    static void stemsOfS() {
        stem("s", "s");
        stem("as", "as");
        stem("gas", "gas");
        stem("cats", "cat");
        stem("123s", "123");
        stem("12s", "12s");
        stem("boss", "boss");
        stem("bosss", "bosss");
        stem("ss", "ss");
        stem("abcdefghijks", "abcdefghijk");
        stem("abcdefghijss", "abcdefghijss");
        stem("catz", "catz");
    }

    static void stemsOfCutWords() {
        stem("abcdefghiingxyz", "abcdefghi");
        stem("abcdefghijing", "abcdefghijin");
        stem("abcdefghijedz", "abcdefghij");
        stem("abcdefghijked", "abcdefghijke");
        stem("abcdefghijksz", "abcdefghijk");
        stem("abcdefghijkls", "abcdefghijkl");
    }

    static void oneRuleAlone() {
        stem("feedings", "feeding");
        stem("needing", "need");
        stem("singed", "sing");
        stem("seeded", "seed");
        stem("beds", "bed");
        stem("eds", "eds");
        stem("ings", "ing");
    }

    static void stopWordIsAStem() {
        SearchMill mill = new SearchMill();
        Check.typed(mill, "baking").stop();
        Check.due("a stop word is a stem", Check.typed(mill, "bak baked baks baking bake").text(0), 1);
        Check.due("another word of the same stem is no further one", Check.typed(mill, "baked").stop(), 1);
        Check.due("a word is none, if its stem is another", Check.typed(mill, "bakings").stop(), 2);
        Check.due("the stem alone counts", Check.typed(mill, "baking bakings").text(0), 0);
    }

    static void tenStopWords() {
        SearchMill mill = new SearchMill();
        for (int i = 1; i <= 10; i++) {
            Check.due("each is counted once: " + i, Check.typed(mill, "word" + (char) ('a' + i)).stop(), i);
            if (i < 10) {
                Check.due("and again", Check.typed(mill, "WORD" + (char) ('a' + i)).stop(), i);
            }
        }
        Check.typed(mill, "wordz");
        Check.fails("there are 10 stop words", Check.STATE, () -> mill.stop());
        mill.wipe();
        Check.typed(mill, "wordb");
        Check.fails("there are 10, also for one of them", Check.STATE, () -> mill.stop());
        Check.due("the pad is left", mill.wipe(), 5);
        Check.due("the first and the last of the 10", Check.typed(mill, "wordb wordk wordz").text(0), 1);
    }

    static void onlyOneWordIsAStop() {
        SearchMill mill = new SearchMill();
        Check.fails("not just one word: none", Check.STATE, () -> mill.stop());
        Check.typed(mill, " - ");
        Check.fails("not just one word: signs alone", Check.STATE, () -> mill.stop());
        Check.typed(mill, "x");
        Check.due("just one word among signs", mill.stop(), 1);
        Check.typed(mill, "y z");
        Check.fails("not just one word: two", Check.STATE, () -> mill.stop());
        mill.wipe();
        Check.typed(mill, "y y");
        Check.fails("not just one word: twice the same", Check.STATE, () -> mill.stop());
        mill.wipe();
        Check.typed(mill, "x y");
        Check.fails("a stop word is a word, too", Check.STATE, () -> mill.stop());
    }

    static void tenSynonyms() {
        SearchMill mill = new SearchMill();
        for (int i = 1; i <= 10; i++) {
            String pair = i < 3 ? "dog hound" : "dog w" + i;
            Check.due("one that is told again counted again: " + i, Check.typed(mill, pair).synonym(), i);
        }
        Check.typed(mill, "cat puss");
        Check.fails("there are 10 synonyms", Check.STATE, () -> mill.synonym());
        mill.wipe();
        Check.typed(mill, "dog hound");
        Check.fails("there are 10, also for one of them", Check.STATE, () -> mill.synonym());
        Check.due("the pad is left", mill.wipe(), 9);
        Check.due("nine different ones, and the word itself", Check.typed(mill, "dogs").text(0), 10);
        Check.due("the eleventh was not taken", Check.typed(mill, "cat").text(0), 1);
        Check.typed(mill, "dog dog dog dog dog dog dog dog dog dog");
        Check.due("at each of its places", mill.text(0), 100);
    }

    static void onlyTwoWordsAreASynonym() {
        SearchMill mill = new SearchMill();
        Check.fails("not just two words: none", Check.STATE, () -> mill.synonym());
        Check.typed(mill, "x");
        Check.fails("not just two words: one", Check.STATE, () -> mill.synonym());
        Check.typed(mill, ", y");
        Check.due("just two words", mill.synonym(), 1);
        Check.typed(mill, "x y z");
        Check.fails("not just two words: three", Check.STATE, () -> mill.synonym());
        mill.wipe();
        Check.typed(mill, "z z");
        Check.due("twice the same are two", mill.synonym(), 2);
        Check.due("a stem is no synonym of its own", Check.typed(mill, "z").text(0), 1);
    }

    static void tokenAtThisPlaceAlready() {
        SearchMill mill = new SearchMill();
        Check.typed(mill, "a b").synonym();
        Check.typed(mill, "a c").synonym();
        Check.typed(mill, "a bs").synonym();
        Check.typed(mill, "b a").synonym();
        Check.typed(mill, "a b").synonym();
        Check.due("b is there already, bs is another one", Check.typed(mill, "a").text(0), 4);
        Check.due("at another place it is not there", Check.typed(mill, "a b").text(0), 6);
        mill.add(0);
        mill.flush();
        Check.due("the words", Check.words(mill), "a b bs c");
        // a is at 0, and at 1 as a synonym of b; b is at 0 as a synonym of a, and at 1.
        Check.bits("a at both places", mill, 0, "0001 0 1 0 0");
        Check.bits("b at both places, at each once", mill, 1, "0001 0 1 0 0");
        Check.bits("c at the first", mill, 3, "0000");
    }

    static void synonymsOfTheFirstStem() {
        SearchMill mill = new SearchMill();
        Check.typed(mill, "running jogging").synonym();
        Check.typed(mill, "jogg sport").synonym();
        Check.due("stems of both words", Check.typed(mill, "runned").text(0), 2);
        Check.due("of a synonym there is no synonym", Check.typed(mill, "runns").text(0), 2);
        Check.due("but of its own word", Check.typed(mill, "jogged").text(0), 2);
        Check.due("not from the second to the first", Check.typed(mill, "sport").text(0), 1);
        mill.add(0);
        SearchMill other = new SearchMill();
        Check.typed(other, "old").stop();
        Check.typed(other, "old ancient").synonym();
        Check.typed(other, "new old").synonym();
        Check.due("a stop word has no synonyms", Check.typed(other, "old").text(0), 0);
        Check.due("a second stem may be a stop word", Check.typed(other, "new").text(0), 2);
    }

    static void stopWordsHaveTheirPlaces() {
        SearchMill mill = new SearchMill();
        Check.typed(mill, "the").stop();
        Check.added(mill, 0, "the a the the b the");
        mill.flush();
        Check.due("no token", Check.words(mill), "a b");
        Check.bits("its place ahead of a", mill, 0, "0001 0 0 1");
        Check.bits("its places ahead of b", mill, 1, "0011 000 000 100");
    }

    static void addedAtSomeTime() {
        Check.refused("stop when a document was added", Check.STATE, () -> {
            SearchMill mill = new SearchMill();
            mill.add(0);
            return Check.typed(mill, "a");
        }, SearchMill::stop);
        Check.refused("synonym when a document was added", Check.STATE, () -> {
            SearchMill mill = new SearchMill();
            mill.add(0);
            return Check.typed(mill, "a b");
        }, SearchMill::synonym);
        SearchMill deleted = new SearchMill();
        deleted.add(0);
        deleted.delete(0);
        Check.typed(deleted, "a");
        Check.fails("at some time: it is deleted by now", Check.STATE, () -> deleted.stop());
        Check.typed(deleted, " b");
        Check.fails("at some time: it is deleted by now, for synonyms", Check.STATE, () -> deleted.synonym());
        SearchMill crashed = new SearchMill();
        crashed.add(0);
        Check.crashed(crashed);
        Check.typed(crashed, "a");
        Check.fails("at some time: it was ahead of a crash", Check.STATE, () -> crashed.stop());
        crashed.open();
        Check.fails("at some time: opened", Check.STATE, () -> crashed.stop());
        SearchMill mill = new SearchMill();
        Check.fails("an add that is refused adds nothing", Check.INDEX, () -> mill.add(100));
        Check.crashed(mill);
        Check.fails("an add while it is DOWN adds nothing", Check.STATE, () -> mill.add(0));
        Check.due("so a stop word can be told", Check.typed(mill, "a").stop(), 1);
        Check.due("and a synonym", Check.typed(mill, "a b").synonym(), 1);
        mill.open();
        mill.delete(0);
        Check.due("to delete nothing is not to add", Check.typed(mill, "c").stop(), 2);
    }

    static void textsToldAheadOfRules() {
        for (int field = 0; field < 2; field++) {
            SearchMill mill = new SearchMill();
            Check.due("without rules", Check.typed(mill, "the dog").text(field), 2);
            Check.typed(mill, "the").stop();
            Check.typed(mill, "dog hound").synonym();
            Check.typed(mill, "dog pet").synonym();
            mill.add(0);
            mill.flush();
            Check.due("the tokens are those by all rules", mill.words(0, field), 3);
            Check.due("the stop word is none", Check.wordAt(mill, 0, field, 0), "dog");
            Check.due("the synonyms are", Check.wordAt(mill, 0, field, 1), "hound");
        }
    }

    static void textTakesThePad() {
        for (int field : new int[] {-1, 2, Integer.MIN_VALUE, Integer.MAX_VALUE}) {
            Check.refused("6: no such field: " + field, Check.INDEX, () -> {
                SearchMill mill = new SearchMill();
                Check.typed(mill, "old").text(0);
                Check.typed(mill, "old").text(1);
                return Check.typed(mill, "new pad");
            }, mill -> mill.text(field));
        }
        SearchMill mill = new SearchMill();
        Check.typed(mill, "first text").text(0);
        Check.typed(mill, "second text here").text(1);
        Check.due("6: in place of the one that it has", Check.typed(mill, "third").text(0), 1);
        Check.due("6: the pad is empty then", mill.wipe(), 0);
        mill.add(0);
        mill.flush();
        Check.due("6: field 0", Check.words(mill), "third");
        Check.due("6: field 1 is left", mill.words(0, 1), 3);
        Check.typed(mill, "word").text(0);
        Check.due("6: an empty text in its place", mill.text(0), 0);
        mill.add(1);
        mill.flush();
        Check.due("6: it is empty", mill.words(1, 0), 0);
    }

    static void wipes() {
        SearchMill mill = new SearchMill();
        Check.due("3: nothing to wipe", mill.wipe(), 0);
        Check.typed(mill, "1234567890123456789012345678901234567890");
        Check.due("3: a full pad", mill.wipe(), 40);
        Check.due("3: wiped", mill.wipe(), 0);
        Check.refused("2: a sign out of range", Check.ARGUMENT, () -> Check.typed(new SearchMill(), "ab"),
            one -> one.type((char) 127));
        Check.refused("2: a full pad", Check.STATE,
            () -> Check.typed(new SearchMill(), "a b c d e f g h i j k l m n o p q r s tu"), one -> one.type('v'));
        Check.refused("2: out of range and full", Check.ARGUMENT,
            () -> Check.typed(new SearchMill(), "a b c d e f g h i j k l m n o p q r s tu"), one -> one.type((char) 31));
        Check.refused("4: two words", Check.STATE, () -> Check.typed(new SearchMill(), "aa bb"), SearchMill::stop);
        Check.refused("4: no word", Check.STATE, () -> Check.typed(new SearchMill(), "- -"), SearchMill::stop);
        Check.refused("5: one word", Check.STATE, () -> Check.typed(new SearchMill(), "aa "), SearchMill::synonym);
        Check.refused("5: three words", Check.STATE, () -> Check.typed(new SearchMill(), "a b c"), SearchMill::synonym);
    }
}
