import java.util.function.Consumer;
import java.util.function.Supplier;

/** The edges that the document names under "Queries" and in the promises 36 to 46. */
public final class EdgesOfQueries {
    private static final int[] NO_FIELD = {Integer.MIN_VALUE, -1, 2, Integer.MAX_VALUE};

    public static void main(String[] args) {
        leavesTakeThePad();
        termOfOneToken();
        phraseOf1To6Tokens();
        phraseWithSlop();
        phraseOfPlacesInBetween();
        phraseOfSameTokens();
        phraseFromAnyPlace();
        slopFrom0To20();
        nearOfTwoTokens();
        nearUpToTheDistance();
        nearInOrderOrNot();
        nearOfSamePlaces();
        distanceFrom1To20();
        prefixOfOneWord();
        prefixLengths();
        wildOf1To12Signs();
        wildAnySign();
        wildAnySigns();
        fuzzyOfOneWord();
        fuzzyEdits();
        fuzzyOfShortWords();
        fuzzyOfLongWords();
        editsFrom0To2();
        eightParts();
        twentyFourLeaves();
        wrongFields();
        leastRanges();
        leastOfParts();
        butOfTwo();
        butOfEightParts();
        queriesUpTo40();
        scrapsAll();
        weights1To9();
        rulesHoldForPads();
        Check.end();
    }

    /** A part, a query and a text on the pad. */
    static Supplier<SearchMill> withPad(String pad) {
        return () -> {
            SearchMill mill = Check.with("a b", "b");
            Check.termQuery(mill, 0, "a");
            Check.typed(mill, "b").term(0);
            return Check.typed(mill, pad);
        };
    }

    static void refused(String what, Class<?> kind, String pad, Consumer<SearchMill> call) {
        Check.refused(what + " with the pad \"" + pad + "\"", kind, withPad(pad), call);
    }

    static void leavesTakeThePad() {
        SearchMill mill = new SearchMill();
        Check.due("36: a part", Check.typed(mill, "a").term(0), 1);
        Check.due("36: the pad is empty", mill.wipe(), 0);
        Check.due("37: a part", Check.typed(mill, "a b").phrase(1, 0), 2);
        Check.due("37: the pad is empty", mill.wipe(), 0);
        Check.due("38: a part", Check.typed(mill, "a b").near(0, 1, false), 3);
        Check.due("38: the pad is empty", mill.wipe(), 0);
        Check.due("39: a part", Check.typed(mill, "a").prefix(1), 4);
        Check.due("39: the pad is empty", mill.wipe(), 0);
        Check.due("40: a part", Check.typed(mill, "a").wild(0), 5);
        Check.due("40: the pad is empty", mill.wipe(), 0);
        Check.due("41: a part", Check.typed(mill, "a").fuzzy(1, 0), 6);
        Check.due("41: the pad is empty", mill.wipe(), 0);
        Check.due("45: six", mill.scrap(), 6);
    }

    static void termOfOneToken() {
        refused("36: no token", Check.STATE, "", mill -> mill.term(0));
        refused("36: no token", Check.STATE, "- -", mill -> mill.term(0));
        refused("36: two tokens", Check.STATE, "a b", mill -> mill.term(0));
        refused("36: twice the same", Check.STATE, "a a", mill -> mill.term(0));
        SearchMill mill = Check.with("cat", "cats", "cat cat", "dog", "");
        Check.typed(mill, "--cats--").term(0);
        Check.due("36: just one token", Check.keys(mill), 0b00111);
        Check.typed(mill, "cat").term(1);
        Check.due("36: in the field alone", Check.keys(mill), 0);
        Check.typed(mill, "ca").term(0);
        Check.due("36: not of tokens that begin so", Check.keys(mill), 0);
    }

    static void phraseOf1To6Tokens() {
        refused("37: no token", Check.STATE, "", mill -> mill.phrase(0, 0));
        refused("37: no token", Check.STATE, "..", mill -> mill.phrase(0, 20));
        refused("37: seven tokens", Check.STATE, "a b c d e f g", mill -> mill.phrase(0, 0));
        SearchMill mill = Check.with("a b c d e f", "a b c d e g", "x a b c d e f x", "a b c d e", "b c d e f");
        Check.typed(mill, "a").phrase(0, 0);
        Check.due("37: one token", Check.keys(mill), 0b01111);
        Check.typed(mill, "b").phrase(0, 20);
        Check.due("37: one token, with slop", Check.keys(mill), 0b11111);
        Check.typed(mill, "a b c d e f").phrase(0, 0);
        Check.due("37: six tokens", Check.keys(mill), 0b00101);
        Check.typed(mill, "b c d e f").phrase(0, 0);
        Check.due("37: five tokens", Check.keys(mill), 0b10101);
        Check.typed(mill, "a b c d e f").phrase(1, 20);
        Check.due("37: in the field alone", Check.keys(mill), 0);
    }

    static void phraseWithSlop() {
        SearchMill mill = Check.with("a b", "a x b", "a x x b", "a x x x b", "b a", "a x c b", "a x c x b", "a c x x b");
        Check.typed(mill, "a b").phrase(0, 0);
        Check.due("37: slop 0", Check.keys(mill), 0b00000001);
        Check.typed(mill, "a b").phrase(0, 1);
        Check.due("37: slop 1", Check.keys(mill), 0b00000011);
        Check.typed(mill, "a b").phrase(0, 2);
        Check.due("37: slop 2", Check.keys(mill), 0b00100111);
        Check.typed(mill, "a b").phrase(0, 3);
        Check.due("37: slop 3", Check.keys(mill), 0b11101111);
        Check.typed(mill, "a c b").phrase(0, 0);
        Check.due("37: three, slop 0", Check.keys(mill), 0);
        Check.typed(mill, "a c b").phrase(0, 1);
        Check.due("37: three, slop 1, all together", Check.keys(mill), 0b00100000);
        Check.typed(mill, "a c b").phrase(0, 2);
        Check.due("37: three, slop 2, all together", Check.keys(mill), 0b11100000);
    }

    static void phraseOfPlacesInBetween() {
        SearchMill mill = new SearchMill();
        Check.typed(mill, "the").stop();
        String[] texts = {"a b", "a the b", "a x b", "a x x b", "a the the b", "the a b"};
        for (int key = 0; key < texts.length; key++) {
            Check.added(mill, key, texts[key]);
        }
        mill.flush();
        mill.look(true);
        Check.typed(mill, "a the b").phrase(0, 0);
        Check.due("37: as far as in the pad, not less", Check.keys(mill), 0b000110);
        Check.typed(mill, "a the b").phrase(0, 1);
        Check.due("37: and the slop, not less without it", Check.keys(mill), 0b011110);
        Check.typed(mill, "the a b the").phrase(0, 0);
        Check.due("37: stop words at the ends have no part in it", Check.keys(mill), 0b100001);
        Check.typed(mill, "a the the b").phrase(0, 0);
        Check.due("37: three places behind it", Check.keys(mill), 0b011000);
        SearchMill three = new SearchMill();
        Check.typed(three, "the").stop();
        Check.added(three, 0, "a b x c");
        Check.added(three, 1, "a x b c");
        three.flush();
        three.look(true);
        Check.typed(three, "a the b c").phrase(0, 0);
        Check.due("37: each as far as in the pad", Check.keys(three), 0b10);
        Check.typed(three, "a b the c").phrase(0, 0);
        Check.due("37: each as far as in the pad, the last one", Check.keys(three), 0b01);
    }

    static void phraseOfSameTokens() {
        SearchMill mill = Check.with("a", "a a", "a x a", "a a a", "a b a");
        Check.typed(mill, "a a").phrase(0, 0);
        Check.due("37: one place for each of two", Check.keys(mill), 0b01010);
        Check.typed(mill, "a a").phrase(0, 1);
        Check.due("37: with slop", Check.keys(mill), 0b11110);
        Check.typed(mill, "a a a").phrase(0, 20);
        Check.due("37: one place for each of three", Check.keys(mill), 0b01000);
        Check.typed(mill, "a b a").phrase(0, 0);
        Check.due("37: the same at both ends", Check.keys(mill), 0b10000);
    }

    static void phraseFromAnyPlace() {
        SearchMill mill = Check.with("a x x a b", "a c x a x b", "a b x x c", "b a b x c a b c");
        Check.typed(mill, "a b").phrase(0, 0);
        Check.due("37: from a later place", Check.keys(mill), 0b1101);
        Check.typed(mill, "a b").phrase(0, 1);
        Check.due("37: from a later place, with slop", Check.keys(mill), 0b1111);
        Check.typed(mill, "a b c").phrase(0, 0);
        Check.due("37: from the last place", Check.keys(mill), 0b1000);
        Check.typed(mill, "a b c").phrase(0, 2);
        Check.due("37: two between", Check.keys(mill), 0b1100);
        Check.typed(mill, "a b c").phrase(0, 1);
        Check.due("37: one between", Check.keys(mill), 0b1000);
    }

    static void slopFrom0To20() {
        for (int slop : new int[] {-1, 21, Integer.MIN_VALUE, Integer.MAX_VALUE}) {
            refused("37: slop " + slop, Check.ARGUMENT, "a b", mill -> mill.phrase(0, slop));
            refused("37: slop " + slop + ", and no token", Check.ARGUMENT, "", mill -> mill.phrase(1, slop));
            refused("37: slop " + slop + ", and no such field", Check.INDEX, "a b", mill -> mill.phrase(2, slop));
        }
        SearchMill mill = Check.with("a x x x x x x x x x x x x x x x x x x b", "b x x x x x x x x x x x x x x x x x x a");
        Check.typed(mill, "a b").phrase(0, 17);
        Check.due("37: slop 17 of 18", Check.keys(mill), 0);
        Check.typed(mill, "a b").phrase(0, 18);
        Check.due("37: slop 18 of 18", Check.keys(mill), 0b01);
        Check.due("37: slop 20", Check.typed(mill, "a b").phrase(0, 20), 1);
        Check.due("37: never ahead", Check.keys(mill), 0b01);
        Check.due("37: slop 0", Check.typed(mill, "a b").phrase(0, 0), 1);
    }

    static void nearOfTwoTokens() {
        refused("38: no token", Check.STATE, "", mill -> mill.near(0, 1, false));
        refused("38: one token", Check.STATE, "a", mill -> mill.near(0, 1, false));
        refused("38: three tokens", Check.STATE, "a b c", mill -> mill.near(0, 1, true));
        SearchMill mill = Check.with("a b", "a", "b", "x", "a c b");
        Check.typed(mill, "a b").near(0, 1, true);
        Check.due("38: both", Check.keys(mill), 0b00001);
        Check.typed(mill, "a b").near(1, 20, true);
        Check.due("38: in the field alone", Check.keys(mill), 0);
    }

    static void nearUpToTheDistance() {
        SearchMill mill = Check.with("a b", "a x b", "a x x b", "b a", "b x a", "b x x a");
        int[] ordered = {0b000001, 0b000011, 0b000111, 0b000111};
        int[] both = {0b001001, 0b011011, 0b111111, 0b111111};
        for (int distance = 1; distance <= 4; distance++) {
            Check.typed(mill, "a b").near(0, distance, true);
            Check.due("38: in order, up to " + distance, Check.keys(mill), ordered[distance - 1]);
            Check.typed(mill, "a b").near(0, distance, false);
            Check.due("38: up to " + distance, Check.keys(mill), both[distance - 1]);
        }
    }

    static void nearInOrderOrNot() {
        SearchMill mill = Check.with("b a x b", "b a b", "a x x b a", "b x b a");
        Check.typed(mill, "a b").near(0, 1, true);
        Check.due("38: the second one behind the first one", Check.keys(mill), 0b0010);
        Check.typed(mill, "b a").near(0, 1, true);
        Check.due("38: the other way", Check.keys(mill), 0b1111);
        Check.typed(mill, "a b").near(0, 2, true);
        Check.due("38: two behind", Check.keys(mill), 0b0011);
    }

    static void nearOfSamePlaces() {
        SearchMill mill = new SearchMill();
        Check.typed(mill, "a b").synonym();
        String[] texts = {"a", "a a", "a x a", "a b", "b", "b b", "c"};
        for (int key = 0; key < texts.length; key++) {
            Check.added(mill, key, texts[key]);
        }
        mill.flush();
        mill.look(true);
        Check.typed(mill, "a b").near(0, 20, false);
        Check.due("38: at the same place they are not 1 apart", Check.keys(mill), 0b0001110);
        Check.typed(mill, "a b").near(0, 1, true);
        Check.due("38: 1 apart", Check.keys(mill), 0b0001010);
        Check.typed(mill, "a a").near(0, 20, false);
        Check.due("38: the same token at two places", Check.keys(mill), 0b0000110);
        Check.typed(mill, "b b").near(0, 1, true);
        Check.due("38: the same token at two places, 1 apart", Check.keys(mill), 0b0101010);
    }

    static void distanceFrom1To20() {
        for (int distance : new int[] {0, -1, 21, Integer.MIN_VALUE, Integer.MAX_VALUE}) {
            refused("38: distance " + distance, Check.ARGUMENT, "a b", mill -> mill.near(0, distance, true));
            refused("38: distance " + distance + ", and no token", Check.ARGUMENT, "", mill -> mill.near(1, distance, false));
            refused("38: distance " + distance + ", and no such field", Check.INDEX, "a b",
                mill -> mill.near(-1, distance, false));
        }
        SearchMill mill = Check.with("a x x x x x x x x x x x x x x x x x x b", "b x x x x x x x x x x x x x x x x x x a");
        Check.typed(mill, "a b").near(0, 18, false);
        Check.due("38: 18, they are 19 apart", Check.keys(mill), 0);
        Check.typed(mill, "a b").near(0, 19, false);
        Check.due("38: 19", Check.keys(mill), 0b11);
        Check.typed(mill, "a b").near(0, 20, true);
        Check.due("38: 20, in order", Check.keys(mill), 0b01);
    }

    static void prefixOfOneWord() {
        refused("39: no word", Check.STATE, "", mill -> mill.prefix(0));
        refused("39: no word", Check.STATE, "*", mill -> mill.prefix(0));
        refused("39: two words", Check.STATE, "a b", mill -> mill.prefix(0));
        SearchMill mill = Check.with("b", "baking", "bake", "");
        Check.typed(mill, ".bak.").prefix(0);
        Check.due("39: one word among signs", Check.keys(mill), 0b0110);
        Check.typed(mill, "bak").prefix(1);
        Check.due("39: in the field alone", Check.keys(mill), 0);
        Check.typed(mill, "baking").prefix(0);
        Check.due("39: the word, not its stem, and tokens are stems", Check.keys(mill), 0);
        Check.typed(mill, "bakes").prefix(0);
        Check.due("39: longer than any token", Check.keys(mill), 0);
    }

    static void prefixLengths() {
        SearchMill mill = Check.with("a", "ab", "abc", "abcdefghijk", "abcdefghijkl", "b", "ba", "x ab");
        Check.typed(mill, "a").prefix(0);
        Check.due("39: one sign", Check.keys(mill), 0b10011111);
        Check.typed(mill, "ab").prefix(0);
        Check.due("39: a token is its own beginning", Check.keys(mill), 0b10011110);
        Check.typed(mill, "abcdefghijk").prefix(0);
        Check.due("39: eleven signs", Check.keys(mill), 0b00011000);
        Check.typed(mill, "abcdefghijkl").prefix(0);
        Check.due("39: twelve signs", Check.keys(mill), 0b00010000);
        Check.typed(mill, "abcdefghijkm").prefix(0);
        Check.due("39: another twelfth sign", Check.keys(mill), 0);
    }

    static void wildOf1To12Signs() {
        refused("40: no signs", Check.STATE, "", mill -> mill.wild(0));
        refused("40: 13 signs", Check.STATE, "abcdefghijklm", mill -> mill.wild(0));
        refused("40: 13 signs that stand for others", Check.STATE, "*************", mill -> mill.wild(1));
        refused("40: another sign ahead", Check.STATE, " a", mill -> mill.wild(0));
        refused("40: another sign behind", Check.STATE, "a ", mill -> mill.wild(0));
        for (char sign = 32; sign <= 126; sign++) {
            SearchMill mill = new SearchMill();
            mill.type(sign);
            if (Character.isLetterOrDigit(sign) || sign == '*' || sign == '?') {
                Check.due("40: the sign " + sign, mill.wild(0), 1);
            } else {
                Check.fails("40: the sign " + sign, Check.STATE, () -> mill.wild(0));
                Check.due("40: the pad stays", mill.wipe(), 1);
            }
        }
        SearchMill mill = Check.with("abcdefghijkl", "abcdefghijk", "a");
        Check.typed(mill, "abcdefghijkl").wild(0);
        Check.due("40: 12 signs", Check.keys(mill), 0b001);
        Check.typed(mill, "************").wild(0);
        Check.due("40: 12 times any signs", Check.keys(mill), 0b111);
        Check.typed(mill, "*a*b*?*j*?*l").wild(0);
        Check.due("40: 12 of them mixed", Check.keys(mill), 0b001);
        Check.typed(mill, "?").wild(0);
        Check.due("40: 1 sign", Check.keys(mill), 0b100);
        Check.typed(mill, "*").wild(0);
        Check.due("40: any signs alone", Check.keys(mill), 0b111);
        Check.typed(mill, "*").wild(1);
        Check.due("40: in the field alone", Check.keys(mill), 0);
    }

    static void wildAnySign() {
        SearchMill mill = Check.with("b", "ba", "bat", "cat", "at", "batt");
        Check.typed(mill, "?a?").wild(0);
        Check.due("40: ? stands for one sign at both ends", Check.keys(mill), 0b001100);
        Check.typed(mill, "?at").wild(0);
        Check.due("40: not for none", Check.keys(mill), 0b001100);
        Check.typed(mill, "??").wild(0);
        Check.due("40: two", Check.keys(mill), 0b010010);
        Check.typed(mill, "b?").wild(0);
        Check.due("40: not for two", Check.keys(mill), 0b000010);
        Check.typed(mill, "????????????").wild(0);
        Check.due("40: twelve", Check.keys(mill), 0);
        Check.typed(mill, "bat").wild(0);
        Check.due("40: the pad itself", Check.keys(mill), 0b000100);
    }

    static void wildAnySigns() {
        SearchMill mill = Check.with("ab", "aab", "abb", "axxb", "b", "a", "abab", "ba");
        Check.typed(mill, "a*b").wild(0);
        Check.due("40: * stands for none and for more", Check.keys(mill), 0b01001111);
        Check.typed(mill, "*b").wild(0);
        Check.due("40: for none ahead", Check.keys(mill), 0b01011111);
        Check.typed(mill, "a*").wild(0);
        Check.due("40: for none behind", Check.keys(mill), 0b01101111);
        Check.typed(mill, "**a**b**").wild(0);
        Check.due("40: twice the same is no more", Check.keys(mill), 0b01001111);
        Check.typed(mill, "*a?b*").wild(0);
        Check.due("40: one between them", Check.keys(mill), 0b00000110);
        Check.typed(mill, "a*?b").wild(0);
        Check.due("40: at least one between them", Check.keys(mill), 0b01001110);
        Check.typed(mill, "a*b*a").wild(0);
        Check.due("40: none", Check.keys(mill), 0);
        Check.typed(mill, "*ab").wild(0);
        Check.due("40: the signs again behind a false beginning", Check.keys(mill), 0b01000011);
        Check.typed(mill, "ab*ab").wild(0);
        Check.due("40: both ends, none between them", Check.keys(mill), 0b01000000);
    }

    static void fuzzyOfOneWord() {
        refused("41: no word", Check.STATE, "", mill -> mill.fuzzy(0, 2));
        refused("41: two words", Check.STATE, "a b", mill -> mill.fuzzy(0, 0));
        SearchMill mill = Check.with("bak", "bake", "cake", "");
        Check.typed(mill, "-bake-").fuzzy(0, 0);
        Check.due("41: one word among signs", Check.keys(mill), 0b0010);
        Check.typed(mill, "baking").fuzzy(0, 2);
        Check.due("41: the word, not its stem", Check.keys(mill), 0);
        Check.typed(mill, "baked").fuzzy(0, 1);
        Check.due("41: the word, with one edit", Check.keys(mill), 0b0010);
        Check.typed(mill, "bake").fuzzy(1, 2);
        Check.due("41: in the field alone", Check.keys(mill), 0);
    }

    static void fuzzyEdits() {
        SearchMill mill = Check.with("abcd", "abcde", "xabcd", "abc", "bcd", "abxd", "abcdef", "ab", "bc", "xbxd", "abdc",
            "dcba");
        Check.typed(mill, "abcd").fuzzy(0, 0);
        Check.due("41: none", Check.keys(mill), 0b000000000001);
        Check.typed(mill, "abcd").fuzzy(0, 1);
        Check.due("41: one put in, taken out or replaced, anywhere", Check.keys(mill), 0b000000111111);
        Check.typed(mill, "abcd").fuzzy(0, 2);
        Check.due("41: two of them; two that are changed round are two", Check.keys(mill), 0b011111111111);
        SearchMill mixed = Check.with("bcde", "bcdef", "xbcde", "abcdefg", "a", "acbd", "bdx", "bdxy");
        Check.typed(mixed, "abcd").fuzzy(0, 2);
        Check.due("41: one taken out and one put in, not three", Check.keys(mixed), 0b00100101);
        Check.typed(mixed, "abd").fuzzy(0, 2);
        Check.due("41: two edits, of three kinds", Check.keys(mixed), 0b01110000);
    }

    static void fuzzyOfShortWords() {
        SearchMill mill = Check.with("xy");
        Check.typed(mill, "abc").fuzzy(0, 2);
        Check.due("41: two replaced and one taken out are three", Check.keys(mill), 0);
        SearchMill other = Check.with("xyz");
        Check.typed(other, "a").fuzzy(0, 2);
        Check.due("41: one replaced and two put in are three", Check.keys(other), 0);
        Check.typed(other, "axz").fuzzy(0, 1);
        Check.due("41: one put in and one taken out are two", Check.keys(other), 0);
        Check.typed(other, "axz").fuzzy(0, 2);
        Check.due("41: or two replaced", Check.keys(other), 1);
        Check.typed(other, "z").fuzzy(0, 2);
        Check.due("41: two put in ahead", Check.keys(other), 1);
        Check.typed(other, "xyzab").fuzzy(0, 2);
        Check.due("41: two taken out behind", Check.keys(other), 1);
        Check.typed(other, "xyzabc").fuzzy(0, 2);
        Check.due("41: three taken out", Check.keys(other), 0);
    }

    static void fuzzyOfLongWords() {
        SearchMill mill = Check.with("abcdefghijkl", "abcdefghij", "a", "b", "cd", "bcd", "9");
        Check.typed(mill, "abcdefghijkl").fuzzy(0, 2);
        Check.due("41: twelve signs", Check.keys(mill), 0b0000011);
        Check.typed(mill, "abcdefghijkl").fuzzy(0, 1);
        Check.due("41: twelve signs, one edit", Check.keys(mill), 0b0000001);
        Check.typed(mill, "xxcdefghijkl").fuzzy(0, 2);
        Check.due("41: the first signs replaced", Check.keys(mill), 0b0000001);
        Check.typed(mill, "a").fuzzy(0, 0);
        Check.due("41: one sign", Check.keys(mill), 0b0000100);
        Check.typed(mill, "a").fuzzy(0, 1);
        Check.due("41: one sign, one edit", Check.keys(mill), 0b1001100);
        Check.typed(mill, "a").fuzzy(0, 2);
        Check.due("41: one sign, two edits", Check.keys(mill), 0b1011100);
    }

    static void editsFrom0To2() {
        for (int edits : new int[] {-1, 3, Integer.MIN_VALUE, Integer.MAX_VALUE}) {
            refused("41: edits " + edits, Check.ARGUMENT, "a", mill -> mill.fuzzy(0, edits));
            refused("41: edits " + edits + ", and no word", Check.ARGUMENT, "", mill -> mill.fuzzy(1, edits));
            refused("41: edits " + edits + ", and no such field", Check.INDEX, "a", mill -> mill.fuzzy(2, edits));
        }
        Check.due("41: edits 0", Check.typed(new SearchMill(), "a").fuzzy(0, 0), 1);
        Check.due("41: edits 2", Check.typed(new SearchMill(), "a").fuzzy(0, 2), 1);
    }

    static void noLeafFits(String what, Supplier<SearchMill> full) {
        Supplier<SearchMill> one = () -> Check.typed(full.get(), "a");
        Supplier<SearchMill> two = () -> Check.typed(full.get(), "a b");
        Check.refused("36: " + what, Check.STATE, one, mill -> mill.term(0));
        Check.refused("37: " + what, Check.STATE, two, mill -> mill.phrase(0, 0));
        Check.refused("38: " + what, Check.STATE, two, mill -> mill.near(0, 1, true));
        Check.refused("39: " + what, Check.STATE, one, mill -> mill.prefix(0));
        Check.refused("40: " + what, Check.STATE, one, mill -> mill.wild(0));
        Check.refused("41: " + what, Check.STATE, one, mill -> mill.fuzzy(0, 0));
    }

    static SearchMill parts(int count) {
        SearchMill mill = new SearchMill();
        for (int i = 1; i <= count; i++) {
            Check.due("up to 8 parts", Check.typed(mill, "a").term(0), i);
        }
        return mill;
    }

    static void fits(String what, int parts, Supplier<SearchMill> made) {
        Check.due("36: " + what, Check.typed(made.get(), "a").term(0), parts);
        Check.due("37: " + what, Check.typed(made.get(), "a b").phrase(0, 0), parts);
        Check.due("38: " + what, Check.typed(made.get(), "a b").near(0, 1, true), parts);
        Check.due("39: " + what, Check.typed(made.get(), "a").prefix(0), parts);
        Check.due("40: " + what, Check.typed(made.get(), "a").wild(0), parts);
        Check.due("41: " + what, Check.typed(made.get(), "a").fuzzy(0, 0), parts);
    }

    static void eightParts() {
        fits("an eighth part", 8, () -> parts(7));
        noLeafFits("there are 8 parts", () -> parts(8));
        SearchMill mill = parts(8);
        mill.least(2, 1);
        Check.due("36: joined, so one more", Check.typed(mill, "a").term(0), 8);
        mill.scrap();
        Check.due("36: scrapped, so many more", Check.typed(mill, "a").term(0), 1);
    }

    /** A part of so many leaves, 9 to 24. */
    static SearchMill leaves(int count) {
        SearchMill mill = parts(8);
        mill.least(8, 1);
        int left = count - 8;
        while (left > 0) {
            int more = Math.min(left, 7);
            for (int i = 0; i < more; i++) {
                Check.typed(mill, "a").term(0);
            }
            Check.due("one part", mill.least(more + 1, 1), 1);
            left -= more;
        }
        return mill;
    }

    static void twentyFourLeaves() {
        fits("a 24th leaf", 2, () -> leaves(23));
        noLeafFits("there are 24 leaves in one part", () -> leaves(24));
        noLeafFits("there are 24 leaves in two parts", EdgesOfQueries::twoParts);
        SearchMill mill = leaves(24);
        mill.query();
        Check.due("36: they are in the query", Check.typed(mill, "a").term(0), 1);
        SearchMill asked = Check.with("a", "b");
        for (int i = 0; i < 8; i++) {
            Check.typed(asked, i == 7 ? "b" : "a").term(0);
        }
        asked.least(8, 1);
        for (int part = 0; part < 2; part++) {
            for (int i = 0; i < 7; i++) {
                Check.typed(asked, "a").term(0);
            }
            asked.least(8, 1);
        }
        Check.typed(asked, "a").term(0);
        Check.typed(asked, "b").term(0);
        asked.least(2, 1);
        asked.least(2, 2);
        Check.due("44: a query of 24 leaves", Check.keys(asked), 0b11);
        Check.due("52: 22 of them", asked.rankByScan(0, 0, 0), 22 * 96);
        Check.due("52: two of them", asked.rankByScan(0, 0, 1), 2 * 96);
    }

    static SearchMill twoParts() {
        SearchMill mill = leaves(23);
        Check.typed(mill, "a").term(0);
        return mill;
    }

    static void wrongFields() {
        for (int field : NO_FIELD) {
            refused("36: field " + field, Check.INDEX, "a", mill -> mill.term(field));
            refused("36: field " + field, Check.INDEX, "", mill -> mill.term(field));
            refused("37: field " + field, Check.INDEX, "a", mill -> mill.phrase(field, 0));
            refused("37: field " + field, Check.INDEX, "", mill -> mill.phrase(field, 0));
            refused("38: field " + field, Check.INDEX, "a b", mill -> mill.near(field, 1, true));
            refused("38: field " + field, Check.INDEX, "", mill -> mill.near(field, 1, true));
            refused("39: field " + field, Check.INDEX, "a", mill -> mill.prefix(field));
            refused("39: field " + field, Check.INDEX, "", mill -> mill.prefix(field));
            refused("40: field " + field, Check.INDEX, "a", mill -> mill.wild(field));
            refused("40: field " + field, Check.INDEX, "", mill -> mill.wild(field));
            refused("41: field " + field, Check.INDEX, "a", mill -> mill.fuzzy(field, 0));
            refused("41: field " + field, Check.INDEX, "", mill -> mill.fuzzy(field, 0));
        }
    }

    static void leastRanges() {
        int[][] wrong = {{1, 1}, {0, 0}, {-1, 1}, {9, 1}, {9, 9}, {2, 0}, {2, -1}, {2, 3}, {8, 9}, {8, 0},
            {Integer.MIN_VALUE, 1}, {Integer.MAX_VALUE, 1}, {2, Integer.MIN_VALUE}, {2, Integer.MAX_VALUE}};
        for (int[] pair : wrong) {
            Check.refused("42: " + pair[0] + " parts, least " + pair[1], Check.ARGUMENT, () -> parts(8),
                mill -> mill.least(pair[0], pair[1]));
            Check.refused("42: and there are fewer", Check.ARGUMENT, () -> parts(1), mill -> mill.least(pair[0], pair[1]));
        }
        for (int parts = 2; parts <= 8; parts++) {
            int wanted = parts;
            Check.refused("42: there is one part less than " + parts, Check.STATE, () -> parts(wanted - 1),
                mill -> mill.least(wanted, 1));
            Check.refused("42: there are no parts", Check.STATE, SearchMill::new, mill -> mill.least(wanted, wanted));
            Check.due("42: just as many, least 1", parts(parts).least(parts, 1), 1);
            Check.due("42: just as many, all", parts(parts).least(parts, parts), 1);
            Check.due("42: the last ones of 8", parts(8).least(parts, 1), 9 - parts);
        }
    }

    static void leastOfParts() {
        SearchMill mill = Check.with("", "a", "a b", "a b c", "a b c d", "a b c d e", "a b c d e f", "a b c d e f g",
            "a b c d e f g h", "h", "x");
        for (int parts = 2; parts <= 8; parts += 6) {
            for (int least = 1; least <= parts; least++) {
                for (int i = 0; i < parts; i++) {
                    Check.typed(mill, "" + (char) ('a' + i)).term(0);
                }
                Check.due("42: one part", mill.least(parts, least), 1);
                int due = (0b111111111 >> least << least) | (least == 1 && parts == 8 ? 1 << 9 : 0);
                Check.due("42: at least " + least + " of " + parts, Check.keys(mill), due);
            }
        }
    }

    static void butOfTwo() {
        Check.refused("43: no parts", Check.STATE, SearchMill::new, SearchMill::but);
        Check.refused("43: one part", Check.STATE, () -> parts(1), SearchMill::but);
        Check.due("43: two parts", parts(2).but(), 1);
        Check.due("43: the last two of three", parts(3).but(), 2);
        SearchMill mill = Check.with("a", "a b", "b", "", "a c", "a b c");
        Check.typed(mill, "a").term(0);
        Check.typed(mill, "b").term(0);
        mill.but();
        Check.due("43: the first without the second", Check.keys(mill), 0b010001);
        Check.typed(mill, "a").term(0);
        Check.typed(mill, "a").term(0);
        mill.but();
        Check.due("43: without itself", Check.keys(mill), 0);
        Check.typed(mill, "a").term(0);
        Check.typed(mill, "b").term(0);
        Check.typed(mill, "c").term(0);
        mill.but();
        mill.but();
        Check.due("43: the later one is joined first", Check.keys(mill), 0b110001);
        Check.typed(mill, "a").term(0);
        Check.typed(mill, "b").term(0);
        mill.but();
        Check.typed(mill, "c").term(0);
        mill.but();
        Check.due("43: without both", Check.keys(mill), 0b000001);
    }

    static void butOfEightParts() {
        SearchMill mill = Check.with("a b", "b c", "c");
        for (String word : new String[] {"b", "b", "b", "b", "b", "b", "b", "a"}) {
            Check.typed(mill, word).term(0);
        }
        Check.due("43: the last two of eight", mill.but(), 7);
        Check.due("42: all", mill.least(7, 7), 1);
        Check.due("43: b without a", Check.keys(mill), 0b010);
        Check.due("57: a is in a second part", mill.passages(0, 0, 1, 0), 1);
        for (String word : new String[] {"c", "b", "b", "b", "b", "b", "b", "a"}) {
            Check.typed(mill, word).term(0);
        }
        mill.but();
        mill.least(7, 1);
        Check.due("43: or c", Check.keys(mill), 0b111);
        Check.due("57: a is in a second part of eight", mill.passageAt(0, 1, 0, 0, 0), 1);
    }

    static SearchMill queries(int count) {
        SearchMill mill = new SearchMill();
        for (int i = 0; i < count; i++) {
            Check.due("44: from 0", Check.termQuery(mill, 0, "a"), i);
        }
        return mill;
    }

    static void queriesUpTo40() {
        Check.refused("44: no part", Check.STATE, SearchMill::new, SearchMill::query);
        Check.refused("44: two parts", Check.STATE, () -> parts(2), SearchMill::query);
        Check.refused("44: eight parts", Check.STATE, () -> parts(8), SearchMill::query);
        Check.due("44: there are no parts then", queries(1).scrap(), 0);
        SearchMill mill = queries(40);
        Check.typed(mill, "a").term(0);
        Check.fails("44: there are 40 queries", Check.STATE, () -> mill.query());
        mill.look(true);
        Check.due("53: the last one", mill.matches(0, 39), 0);
        Check.fails("53: none behind it", Check.INDEX, () -> mill.matches(0, 40));
        Check.refused("44: there are 40 queries", Check.STATE, () -> {
            SearchMill full = queries(40);
            Check.typed(full, "a").term(0);
            return full;
        }, SearchMill::query);
    }

    static void scrapsAll() {
        Check.due("45: none", new SearchMill().scrap(), 0);
        Check.due("45: one", parts(1).scrap(), 1);
        Check.due("45: eight", parts(8).scrap(), 8);
        Check.due("45: a part of 24 leaves", leaves(24).scrap(), 1);
        SearchMill mill = leaves(24);
        mill.scrap();
        Check.due("45: dropped", mill.scrap(), 0);
        Check.fails("45: nothing to make a query of", Check.STATE, () -> mill.query());
        Check.due("45: the leaves went, too", Check.typed(mill, "a").term(0), 1);
        Check.due("44: queries stay", mill.query(), 0);
        Check.due("45: the pad stays", Check.typed(mill, "abc").scrap() + mill.wipe(), 3);
    }

    static void weights1To9() {
        for (int weight : new int[] {0, -1, 10, Integer.MIN_VALUE, Integer.MAX_VALUE}) {
            Check.refused("46: weight " + weight, Check.ARGUMENT, withPad(""), mill -> mill.weigh(0, weight));
            Check.refused("46: weight " + weight, Check.ARGUMENT, withPad(""), mill -> mill.weigh(1, weight));
            Check.refused("46: no such field and weight " + weight, Check.INDEX, withPad(""), mill -> mill.weigh(2, weight));
        }
        for (int field : NO_FIELD) {
            Check.refused("46: field " + field, Check.INDEX, withPad(""), mill -> mill.weigh(field, 5));
        }
        SearchMill mill = Check.with("a");
        Check.termQuery(mill, 0, "a");
        Check.due("46: 3 at first", mill.weigh(0, 1), 3);
        Check.due("46: 1 at first", mill.weigh(1, 9), 1);
        Check.due("52: the weight 1", mill.rankByScan(0, 0, 0), 32);
        Check.due("46: 1", mill.weigh(0, 9), 1);
        Check.due("52: the weight 9", mill.rankByScan(0, 0, 0), 288);
        Check.due("46: 9 for both", mill.weigh(0, 9) + mill.weigh(1, 1), 18);
    }

    static void rulesHoldForPads() {
        Supplier<SearchMill> made = () -> {
            SearchMill mill = new SearchMill();
            Check.typed(mill, "the").stop();
            Check.typed(mill, "dog hound").synonym();
            Check.added(mill, 0, "dog");
            Check.added(mill, 1, "hound");
            Check.added(mill, 2, "the dog the");
            mill.flush();
            mill.look(true);
            return mill;
        };
        Check.refused("36: a stop word is no token", Check.STATE, () -> Check.typed(made.get(), "the"), mill -> mill.term(0));
        Check.refused("37: stop words are no tokens", Check.STATE, () -> Check.typed(made.get(), "the the"),
            mill -> mill.phrase(0, 3));
        Check.refused("38: a token and a stop word", Check.STATE, () -> Check.typed(made.get(), "dog the"),
            mill -> mill.near(0, 3, false));
        SearchMill mill = made.get();
        Check.due("36: one token beside stop words", Check.typed(mill, "the dog the").term(0), 1);
        Check.due("36: synonyms left aside", Check.keys(mill), 0b101);
        Check.typed(mill, "hound").term(0);
        Check.due("36: but those of the texts", Check.keys(mill), 0b111);
        Check.due("38: two tokens and a stop word", Check.typed(mill, "dog the dog").near(0, 1, true), 1);
        Check.due("37: six tokens beside stop words", Check.typed(mill, "a the b c d the e dog the").phrase(0, 0), 2);
        mill.scrap();
        Check.due("39: a stop word is a word", Check.typed(mill, "the").prefix(0), 1);
        Check.due("39: but no token", Check.keys(mill), 0);
        Check.typed(mill, "the").wild(0);
        Check.due("40: no token", Check.keys(mill), 0);
        Check.typed(mill, "the").fuzzy(0, 0);
        Check.due("41: no token", Check.keys(mill), 0);
        Check.typed(mill, "hou").prefix(0);
        Check.due("39: tokens of synonyms", Check.keys(mill), 0b111);
        Check.typed(mill, "?ound").wild(0);
        Check.due("40: tokens of synonyms", Check.keys(mill), 0b111);
        Check.typed(mill, "hounds").fuzzy(0, 1);
        Check.due("41: tokens of synonyms", Check.keys(mill), 0b111);
    }
}
