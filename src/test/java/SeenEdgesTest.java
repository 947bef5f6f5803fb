/** Promises 20 to 24 at their edges: seen, fits, ahead, known, knownOf. A method for each sentence. */
public final class SeenEdgesTest {
    public static void main(String[] args) {
        seenWithin();
        seenUnknown();
        seenOutside();
        seenUnknownAheadOfOutside();
        seenOfSheetsThatAreNotThere();
        fitsOfNoSheets();
        fitsNothingTold();
        fitsSeenOfNoneAndOfAll();
        fitsOneMoreAndOneFewer();
        fitsOnlyWhatIsTold();
        fitsBreaksOfNone();
        fitsBreaksThoughTooFew();
        fitsOfSheetsThatAreNotThere();
        aheadInAllInNoneInSome();
        aheadUnknown();
        aheadNoneFits();
        aheadUnknownAheadOfNo();
        knownNothingUpsideDown();
        knownAsLong();
        knownTheSameWhereLettersStand();
        knownOneOfTheseSortsWhereTheyDoNot();
        knownWithTheSameLetters();
        knownOfTheTen();
        knownUnknown();
        knownOutside();
        knownOfSheets();
        knownOfOneThatIsNotThere();
        knownOfRefused();
        askingChangesNothing();
        Due.end();
    }

    private static final int[] NO_SHEET = {-1, 6, -6, 7, 32, 256, 1 << 31, Integer.MAX_VALUE};

    /** SHEETS of one WORD each, from SHEET 0 on; THE CASE is empty. */
    private static LeadPress of(String... words) {
        LeadPress x = new LeadPress();
        for (int sheet = 0; sheet < words.length; sheet++) {
            Due.word(x, sheet, words[sheet]);
            Due.sheet(x, sheet, "" + sheet);
        }
        Due.stock(x, 0, 0, 0, 0, 0, 0);
        return x;
    }

    private static LeadPress some() {
        LeadPress x = of("ab", "aab", "f");
        Due.stock(x, 2, 1, 1, 1, 1, 0);
        x.seen(1, 0);
        x.seen(4, 3);
        x.image(1);
        return x;
    }

    // ---- 20 seen

    private static void seenWithin() {
        for (int sheet = 0; sheet < 6; sheet++) {
            LeadPress x = new LeadPress();
            int was = Due.NONE;
            for (int v = 0; v <= 30; v++) {
                Due.due("seen(" + sheet + ", " + v + ")", x.seen(sheet, v), was);
                Due.due("told of it", x.told(60 + sheet), v);
                was = v;
            }
            Due.due("the same again", x.seen(sheet, 30), 30);
            Due.due("not told any more", x.seen(sheet, -1), 30);
            Due.due("told of it", x.told(60 + sheet), Due.NONE);
            Due.due("was not told", x.seen(sheet, -1), Due.NONE);
            Due.due("was not told", x.seen(sheet, 0), Due.NONE);
            for (int other = 0; other < 6; other++) {
                Due.due("the others stay", x.told(60 + other), other == sheet ? 0 : Due.NONE);
            }
        }
    }

    private static void seenUnknown() {
        for (int sheet : NO_SHEET) {
            Look.refused("seen(" + sheet + ", 0)", SeenEdgesTest::some, x -> x.seen(sheet, 0), Due.UNKNOWN);
            Look.refused("seen(" + sheet + ", -1)", SeenEdgesTest::some, x -> x.seen(sheet, -1), Due.UNKNOWN);
        }
    }

    private static void seenOutside() {
        int[] outside = {-2, 31, -6, 32, 256, 1 << 31, Integer.MAX_VALUE};
        for (int v : outside) {
            for (int sheet = 0; sheet < 6; sheet++) {
                int which = sheet;
                Look.refused("seen(" + sheet + ", " + v + ")", SeenEdgesTest::some, x -> x.seen(which, v),
                    Due.OUTSIDE);
            }
        }
    }

    private static void seenUnknownAheadOfOutside() {
        Look.refused("seen(6, 31)", SeenEdgesTest::some, x -> x.seen(6, 31), Due.UNKNOWN);
        Look.refused("seen(-1, -2)", SeenEdgesTest::some, x -> x.seen(-1, -2), Due.UNKNOWN);
        Look.refused("seen(MAX, MIN)", SeenEdgesTest::some,
            x -> x.seen(Integer.MAX_VALUE, Integer.MIN_VALUE), Due.UNKNOWN);
    }

    private static void seenOfSheetsThatAreNotThere() {
        LeadPress x = new LeadPress();
        Due.due("seen(5, 7)", x.seen(5, 7), Due.NONE);
        Due.due("told(65)", x.told(65), 7);
        Due.sheet(x, 5, "0");
        Due.due("told(65) of one that is there", x.told(65), 7);
        Due.due("it is asked for then", x.fits(), 0);
    }

    // ---- 21 fits

    private static void fitsOfNoSheets() {
        LeadPress x = new LeadPress();
        Due.due("no sheets", x.fits(), 1);
        Due.stock(x, 0, 0, 0, 0, 0, 0);
        Due.due("no sheets, nothing in the case", x.fits(), 1);
        for (int sheet = 0; sheet < 6; sheet++) {
            x.seen(sheet, 30);
        }
        Due.due("told, and none is there", x.fits(), 1);
    }

    /** Letters that are too few keep no SHEET from being printed. */
    private static void fitsNothingTold() {
        LeadPress x = of("a", "b", "c", "d", "e", "f");
        int want = 720;
        for (int sheets = 6; sheets >= 1; sheets--) {
            Due.due("orders of " + sheets, x.fits(), want);
            x.take(6 - sheets);
            want = want / sheets;
        }
        Due.due("orders of none", x.fits(), 1);
    }

    private static void fitsSeenOfNoneAndOfAll() {
        for (int sort = 0; sort < 6; sort++) {
            LeadPress x = of(("" + (char) ('a' + sort)).repeat(5));
            Due.sheet(x, 0, "000000");
            for (int amount = 0; amount <= 31; amount++) {
                x.lay(sort, amount);
                x.seen(0, Math.max(0, 30 - amount));
                Due.due("as many as are too few, " + amount, x.fits(), 1);
                x.seen(0, amount == 0 ? 29 : 30);
                Due.due("others, " + amount, x.fits(), 0);
            }
        }
    }

    /** The SHEET at place i has i - 2 upside down, but not fewer than none. */
    private static void fitsOneMoreAndOneFewer() {
        LeadPress x = of("aaa", "aaa", "aaa", "aaa", "aaa", "aaa");
        x.lay(0, 5);
        int[] want = {360, 120, 120, 120, 0};
        for (int v = 0; v < want.length; v++) {
            x.seen(3, v);
            Due.due("seen(3, " + v + ")", x.fits(), want[v]);
        }
        x.seen(3, 3);
        x.seen(5, 3);
        Due.due("both are the last one", x.fits(), 0);
        x.seen(5, 2);
        Due.due("the last two", x.fits(), 24);
        x.seen(0, 1);
        Due.due("the last three", x.fits(), 6);
        x.seen(1, 0);
        Due.due("one of the first three too", x.fits(), 6);
        x.seen(2, 1);
        Due.due("two have one", x.fits(), 0);
    }

    private static void fitsOnlyWhatIsTold() {
        LeadPress x = of("a", "a");
        x.lay(0, 1);
        Due.due("nothing told", x.fits(), 2);
        x.seen(0, 1);
        Due.due("0 is the second", x.fits(), 1);
        x.seen(0, -1);
        Due.due("nothing told any more", x.fits(), 2);
        x.seen(1, 1);
        Due.due("1 is the second", x.fits(), 1);
        x.seen(0, 0);
        Due.due("both told", x.fits(), 1);
        x.seen(0, 1);
        Due.due("both told, and both the second", x.fits(), 0);
    }

    /** Fewer than none are none: a SHEET breaks nothing where nothing is. */
    private static void fitsBreaksOfNone() {
        LeadPress x = of("a", "ab", "abb");
        x.seen(0, 1);
        x.seen(1, 2);
        x.seen(2, 3);
        Due.due("nothing in the case", x.fits(), 6);
        x.lay(1, 9);
        x.seen(1, 1);
        x.seen(2, 1);
        Due.due("no a", x.fits(), 6);
        x.set(0, 2);
        Due.due("no a, and a is broken", x.fits(), 6);
        x.set(0, 3);
        Due.due("b is broken, there are enough", x.fits(), 6);
        x.lay(1, 3);
        Due.due("b is broken, just enough", x.fits(), 6);
        x.lay(1, 2);
        Due.due("abb behind ab has one more", x.fits(), 3);
    }

    /** The letter that is broken can be the only one of its SORT there. */
    private static void fitsBreaksThoughTooFew() {
        LeadPress x = of("aaa", "a");
        x.lay(0, 1);
        x.seen(0, 2);
        x.seen(1, 1);
        Due.due("first the one that has too few", x.fits(), 1);
        Due.due("0 ahead of 1", x.ahead(0, 1), 1);
        x.seen(1, 0);
        Due.due("1 has its letter", x.fits(), 0);
        x.seen(0, 3);
        Due.due("1 is first", x.fits(), 1);
        Due.due("0 ahead of 1", x.ahead(0, 1), 0);
    }

    private static void fitsOfSheetsThatAreNotThere() {
        LeadPress x = of("a", "a", "a");
        x.lay(0, 9);
        x.seen(1, 1);
        Due.due("1 has one upside down", x.fits(), 0);
        x.take(1);
        Due.due("1 is not there", x.fits(), 2);
        Due.sheet(x, 1, "1");
        Due.due("1 is there again", x.fits(), 0);
    }

    // ---- 22 ahead

    private static void aheadInAllInNoneInSome() {
        LeadPress x = of("a", "a", "a", "a", "a", "a");
        x.lay(0, 9);
        for (int sheet = 0; sheet < 6; sheet++) {
            for (int other = 0; other < 6; other++) {
                Due.due("nothing told", x.ahead(sheet, other), sheet == other ? Due.UNKNOWN : 2);
            }
        }
        x.lay(0, 5);
        x.seen(2, 1);
        for (int other = 0; other < 6; other++) {
            Due.due("2 is the last", x.ahead(2, other), other == 2 ? Due.UNKNOWN : 0);
            Due.due("all are ahead of 2", x.ahead(other, 2), other == 2 ? Due.UNKNOWN : 1);
        }
        Due.due("in some", x.ahead(5, 0), 2);
        Due.due("in some", x.ahead(0, 5), 2);
        x.seen(0, 0);
        Due.due("still in all", x.ahead(0, 2), 1);
        Due.due("still in none", x.ahead(2, 0), 0);
        LeadPress y = of("aa", "a", "a");
        y.lay(0, 2);
        y.seen(0, 1);
        Due.due("0 is the second", y.ahead(1, 0), 2);
        Due.due("0 is the second", y.ahead(0, 2), 2);
        y.seen(0, 2);
        Due.due("0 is the third", y.ahead(0, 2), 0);
        y.seen(0, 0);
        Due.due("0 is the first", y.ahead(0, 2), 1);
    }

    private static void aheadUnknown() {
        int[] others = {-1, 6, 3, 4, 5, -6, 32, 256, 1 << 31, Integer.MAX_VALUE};
        for (int other : others) {
            Look.refused("ahead(0, " + other + ")", SeenEdgesTest::some, x -> x.ahead(0, other), Due.UNKNOWN);
            Look.refused("ahead(" + other + ", 0)", SeenEdgesTest::some, x -> x.ahead(other, 0), Due.UNKNOWN);
            Look.refused("ahead of itself, " + other, SeenEdgesTest::some, x -> x.ahead(other, other), Due.UNKNOWN);
        }
        for (int sheet = 0; sheet < 3; sheet++) {
            int both = sheet;
            Look.refused("ahead of itself, " + sheet, SeenEdgesTest::some, x -> x.ahead(both, both), Due.UNKNOWN);
        }
        Due.due("the only sheet", of("a").ahead(0, 0), Due.UNKNOWN);
        Due.due("no sheets", new LeadPress().ahead(0, 1), Due.UNKNOWN);
        LeadPress x = some();
        x.take(1);
        Due.due("taken", x.ahead(0, 1), Due.UNKNOWN);
        Due.due("taken", x.ahead(1, 0), Due.UNKNOWN);
        Due.due("the others are there", x.ahead(0, 2), 2);
    }

    private static LeadPress noneFits() {
        LeadPress x = some();
        x.seen(0, 30);
        return x;
    }

    private static void aheadNoneFits() {
        Look.refused("ahead(0, 1), none fits", SeenEdgesTest::noneFits, x -> x.ahead(0, 1), Due.NO);
        Look.refused("ahead(2, 1), none fits", SeenEdgesTest::noneFits, x -> x.ahead(2, 1), Due.NO);
    }

    private static void aheadUnknownAheadOfNo() {
        Look.refused("ahead(0, 0), none fits", SeenEdgesTest::noneFits, x -> x.ahead(0, 0), Due.UNKNOWN);
        Look.refused("ahead(0, 3), none fits", SeenEdgesTest::noneFits, x -> x.ahead(0, 3), Due.UNKNOWN);
        Look.refused("ahead(6, 0), none fits", SeenEdgesTest::noneFits, x -> x.ahead(6, 0), Due.UNKNOWN);
        Look.refused("ahead(-1, 0), none fits", SeenEdgesTest::noneFits, x -> x.ahead(-1, 0), Due.UNKNOWN);
    }

    // ---- 23 known

    /** WORDS 0 on, and all others are abcde. */
    private static LeadPress words(String... words) {
        LeadPress x = new LeadPress();
        for (int word = 0; word < 10; word++) {
            Due.word(x, word, word < words.length ? words[word] : "abcde");
        }
        return x;
    }

    private static void knownNothingUpsideDown() {
        LeadPress x = words("a", "b", "c", "d", "e", "f", "ab", "ac", "abc", "abd");
        for (int word = 0; word < 10; word++) {
            Due.due("known(" + word + ", 0)", x.known(word, 0), 1);
        }
    }

    private static void knownAsLong() {
        LeadPress x = words("a", "bb", "ccc", "dddd", "eeeee", "eeeee", "eeeee", "eeeee", "eeeee", "eeeee");
        for (int word = 0; word < 10; word++) {
            Due.due("known(" + word + ", 63)", x.known(word, 63), 1);
        }
        Due.word(x, 9, "abcd");
        Due.due("abcd could be dddd", x.known(9, 63), 0);
        Due.due("dddd could be abcd", x.known(3, 63), 0);
        Due.due("eeeee", x.known(4, 63), 1);
    }

    private static void knownTheSameWhereLettersStand() {
        LeadPress x = words("abc", "dbc", "adc", "abd");
        Due.due("a and d: abc could be dbc", x.known(0, 9), 0);
        Due.due("b and d: abc could be adc", x.known(0, 10), 0);
        Due.due("c and d: abc could be abd", x.known(0, 12), 0);
        Due.due("b and c: d stands nowhere", x.known(0, 6), 1);
        Due.due("d: all of abc stand", x.known(0, 8), 1);
        Due.due("b and c: a stands in adc, d does too", x.known(2, 6), 1);
        Due.due("a, b, c: d stands in dbc", x.known(1, 7), 1);
        Due.due("all", x.known(0, 63), 0);
        Due.due("all but a", x.known(0, 62), 0);
        Due.due("all but a: no other begins so", words("abc", "dbc").known(0, 62), 1);
    }

    private static void knownOneOfTheseSortsWhereTheyDoNot() {
        LeadPress x = words("ae", "be", "cf");
        Due.due("a: not b", x.known(0, 1), 1);
        Due.due("a and c: not b", x.known(0, 5), 1);
        Due.due("a and b", x.known(0, 3), 0);
        Due.due("b alone: a is not one of these", x.known(1, 2), 1);
        Due.due("a, c, e, f: cf", x.known(0, 53), 0);
        Due.due("a, c, e: f is not one of these", x.known(0, 21), 1);
        Due.due("c, f: a is not one of these", x.known(2, 36), 1);
        LeadPress y = words("fa", "af");
        Due.due("f and a", y.known(0, 33), 0);
        Due.due("f", y.known(0, 32), 1);
        Due.due("a", y.known(1, 1), 1);
    }

    private static void knownWithTheSameLetters() {
        LeadPress x = words("ab", "ab", "ab", "ab", "ab", "ab", "ab", "ab", "ab", "ab");
        for (int word = 0; word < 10; word++) {
            Due.due("all are alike", x.known(word, 63), 1);
        }
        Due.word(x, 5, "ba");
        for (int word = 0; word < 10; word++) {
            Due.due("the same letters elsewhere", x.known(word, 3), 0);
            Due.due("a alone", x.known(word, 1), 1);
            Due.due("b alone", x.known(word, 2), 1);
        }
    }

    /** Each of the ten WORDS, in no SHEET, can be the other one. */
    private static void knownOfTheTen() {
        for (int other = 1; other < 10; other++) {
            LeadPress x = words("ff");
            Due.word(x, other, "ee");
            Due.due("ff could be word " + other, x.known(0, 48), 0);
            Due.due("word " + other + " could be ff", x.known(other, 48), 0);
            Due.due("f alone", x.known(0, 32), 1);
            Due.due("e alone", x.known(other, 16), 1);
        }
    }

    private static void knownUnknown() {
        int[] none = {-1, 10, -10, 11, 256, 1 << 31, Integer.MAX_VALUE};
        int[] sorts = {0, 63, -1, 64, Integer.MIN_VALUE};
        for (int word : none) {
            for (int bits : sorts) {
                Look.refused("known(" + word + ", " + bits + ")", SeenEdgesTest::some, x -> x.known(word, bits),
                    Due.UNKNOWN);
            }
        }
    }

    private static void knownOutside() {
        int[] outside = {-1, 64, -64, 65, 127, 256, 1 << 31, Integer.MAX_VALUE};
        for (int bits : outside) {
            Look.refused("known(0, " + bits + ")", SeenEdgesTest::some, x -> x.known(0, bits), Due.OUTSIDE);
            Look.refused("known(9, " + bits + ")", SeenEdgesTest::some, x -> x.known(9, bits), Due.OUTSIDE);
        }
    }

    // ---- 24 knownOf

    private static void knownOfSheets() {
        LeadPress x = words("a", "b", "cc", "dd", "e");
        for (int places = 1; places <= 6; places++) {
            Due.sheet(x, 5, "444444".substring(0, places));
            Due.due("all known, " + places, x.knownOf(5, 3), places);
            Due.sheet(x, 0, "010101".substring(0, places));
            Due.due("none known, " + places, x.knownOf(0, 3), 0);
            Due.due("nothing upside down, " + places, x.knownOf(0, 0), places);
            Due.due("all upside down, " + places, x.knownOf(5, 63), 0);
        }
        Due.sheet(x, 3, "012349");
        Due.due("all but a and b", x.knownOf(3, 3), 4);
        Due.due("all but cc and dd", x.knownOf(3, 12), 4);
        Due.due("abcde alone", x.knownOf(3, 31), 1);
        Due.due("c, e: the others stand", x.knownOf(3, 20), 6);
        x.stand(0, 4);
        Due.due("stand-ins do not matter", x.knownOf(3, 3), 4);
    }

    private static void knownOfOneThatIsNotThere() {
        LeadPress x = words("a", "b");
        for (int sheet = 0; sheet < 6; sheet++) {
            Due.due("knownOf(" + sheet + ", 0)", x.knownOf(sheet, 0), 0);
            Due.due("knownOf(" + sheet + ", 63)", x.knownOf(sheet, 63), 0);
            Due.sheet(x, sheet, "2");
            Due.due("there", x.knownOf(sheet, 63), 1);
            x.take(sheet);
            Due.due("taken", x.knownOf(sheet, 63), 0);
        }
    }

    private static void knownOfRefused() {
        int[] outside = {-1, 64, -64, 65, 127, 256, 1 << 31, Integer.MAX_VALUE};
        for (int bits : outside) {
            for (int sheet = 0; sheet < 6; sheet++) {
                int which = sheet;
                Look.refused("knownOf(" + sheet + ", " + bits + ")", SeenEdgesTest::some,
                    x -> x.knownOf(which, bits), Due.OUTSIDE);
            }
            for (int sheet : NO_SHEET) {
                Look.refused("knownOf(" + sheet + ", " + bits + ")", SeenEdgesTest::some,
                    x -> x.knownOf(sheet, bits), Due.UNKNOWN);
            }
        }
        for (int sheet : NO_SHEET) {
            Look.refused("knownOf(" + sheet + ", 0)", SeenEdgesTest::some, x -> x.knownOf(sheet, 0), Due.UNKNOWN);
        }
    }

    private static void askingChangesNothing() {
        Look.unchanged("fits()", SeenEdgesTest::some, x -> x.fits());
        for (int i = 0; i < 6; i++) {
            int which = i;
            Look.unchanged("ahead(" + i + ", 1)", SeenEdgesTest::some, x -> x.ahead(which, 1));
            Look.unchanged("known(" + i + ", 63)", SeenEdgesTest::some, x -> x.known(which, 63));
            Look.unchanged("knownOf(" + i + ", 63)", SeenEdgesTest::some, x -> x.knownOf(which, 63));
        }
    }
}
