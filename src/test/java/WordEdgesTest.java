/** Promises 5 to 11 at their edges: word, sheet, take, stand, lay, set, needs. A method for each sentence. */
public final class WordEdgesTest {
    public static void main(String[] args) {
        wordOfOneToFiveLetters();
        wordUnknown();
        wordOfFaultyPad();
        wordUnknownAheadOfNo();
        wordEmptiesThePad();
        wordChangesSheetsThatHaveIt();
        sheetOfOneToSixWords();
        sheetUnknown();
        sheetOfFaultyPad();
        sheetUnknownAheadOfNo();
        sheetEmptiesThePad();
        sheetTakesThePlaceOfTheOldOne();
        takeTellsHowManyWords();
        takeUnknown();
        takeOfOneThatIsNotThere();
        takeLeavesTheRest();
        standInsWithin();
        standUnknown();
        standOutside();
        standUnknownAheadOfOutside();
        standTellsWhichItWas();
        layWithin();
        layUnknown();
        layOutside();
        layUnknownAheadOfOutside();
        setLaw();
        setFee();
        setRents();
        setOutside();
        needsTogether();
        needsOfOneThatIsNotThere();
        needsUnknown();
        breaksWhatItNeedsMost();
        breaksWhatItNeedsFewest();
        breaksTheFirstOfItsFirstWord();
        breaksTheLastOfItsLastWord();
        Due.end();
    }

    private static final int[] NO_WORD = {-1, 10, -10, 11, 256, 1 << 31, Integer.MAX_VALUE};
    private static final int[] NO_SHEET = {-1, 6, -6, 7, 32, 256, 1 << 31, Integer.MAX_VALUE};
    private static final int[] NO_SORT = {-1, 6, -2, 7, 97, 256, 1 << 31, Integer.MAX_VALUE};

    /** All WORDS are told apart, SHEETS 0, 2 and 5 are there, 2 has six WORDS. */
    private static LeadPress laid() {
        LeadPress x = new LeadPress();
        String[] words = {"ab", "b", "cc", "fedcb", "ba", "a", "aa", "abc", "f", "d"};
        for (int word = 0; word < 10; word++) {
            Due.word(x, word, words[word]);
        }
        Due.sheet(x, 0, "7");
        Due.sheet(x, 2, "012345");
        Due.sheet(x, 5, "98");
        x.stand(3, 4);
        x.seen(2, 1);
        x.image(0);
        return x;
    }

    private static LeadPress laid(String pad) {
        LeadPress x = laid();
        Due.pad(x, pad);
        return x;
    }

    // ---- 5 word

    private static void wordOfOneToFiveLetters() {
        for (int word = 0; word < 10; word++) {
            for (int letters = 1; letters <= 5; letters++) {
                LeadPress x = laid("fedcb".substring(0, letters));
                Due.due("word(" + word + ")", x.word(word), letters);
                Due.due("told of its letters", x.told(30 + word), letters);
                Due.sheet(x, 1, "" + word);
                for (int sort = 0; sort < 6; sort++) {
                    Due.due("its letters", x.needs(1, sort), sort >= 6 - letters ? 1 : 0);
                }
                x.set(0, 2);
                Due.due("its first letter", x.needs(1, -1), 5);
                x.set(0, 3);
                Due.due("its last letter", x.needs(1, -1), 6 - letters);
            }
        }
    }

    private static void wordUnknown() {
        for (int word : NO_WORD) {
            Look.refused("word(" + word + ")", () -> laid("abc"), x -> x.word(word), Due.UNKNOWN);
        }
    }

    private static void wordOfFaultyPad() {
        String[] faulty = {"", "g", "`", "A", "0", "ab1", "abcdef", "abcdeg", "abcdefabcdefab", "abcd~"};
        for (String pad : faulty) {
            Look.refused("word(0) of " + pad, () -> laid(pad), x -> x.word(0), Due.NO);
            Look.refused("word(9) of " + pad, () -> laid(pad), x -> x.word(9), Due.NO);
        }
    }

    private static void wordUnknownAheadOfNo() {
        Look.refused("word(-1) of nothing", () -> laid(""), x -> x.word(-1), Due.UNKNOWN);
        Look.refused("word(10) of 0", () -> laid("0"), x -> x.word(10), Due.UNKNOWN);
        Look.refused("word(MIN) of abcdef", () -> laid("abcdef"), x -> x.word(Integer.MIN_VALUE), Due.UNKNOWN);
    }

    private static void wordEmptiesThePad() {
        LeadPress x = laid("abcde");
        Due.due("word(0)", x.word(0), 5);
        Due.due("told(0)", x.told(0), 0);
        Due.due("word(1) of the empty pad", x.word(1), Due.NO);
        Due.due("told(31)", x.told(31), 1);
        Due.due("wipe()", x.wipe(), 0);
        Due.due("say", x.say('a'), 1);
    }

    /** The other WORDS stay as they are. */
    private static void wordChangesSheetsThatHaveIt() {
        LeadPress x = laid("eeeee");
        x.word(7);
        Due.due("needs(0, 4)", x.needs(0, 4), 5);
        Due.due("needs(0, 0)", x.needs(0, 0), 0);
        Due.due("needs(2, 4)", x.needs(2, 4), 1);
        Due.due("words of the sheet", x.told(50), 1);
        Due.word(x, 7, "e");
        Due.due("a shorter word leaves nothing", x.needs(0, 4), 1);
        Due.word(x, 5, "eee");
        Due.due("the last of six words", x.needs(2, 4), 4);
        Due.word(x, 0, "e");
        Due.due("the first of six words", x.needs(2, 4), 5);
    }

    // ---- 6 sheet

    private static void sheetOfOneToSixWords() {
        for (int sheet = 0; sheet < 6; sheet++) {
            for (int words = 1; words <= 6; words++) {
                LeadPress x = laid("988000".substring(0, words));
                int there = x.told(1);
                Due.due("sheet(" + sheet + ")", x.sheet(sheet), words);
                Due.due("told of its words", x.told(50 + sheet), words);
                Due.due("it is there", x.told(1), there | 1 << sheet);
                Due.due("needs d", x.needs(sheet, 3), 1);
                Due.due("needs f", x.needs(sheet, 5), Math.min(2, words - 1));
                Due.due("needs a", x.needs(sheet, 0), Math.max(0, words - 3));
                Due.due("needs e", x.needs(sheet, 4), 0);
            }
        }
    }

    private static void sheetUnknown() {
        for (int sheet : NO_SHEET) {
            Look.refused("sheet(" + sheet + ")", () -> laid("012"), x -> x.sheet(sheet), Due.UNKNOWN);
        }
    }

    private static void sheetOfFaultyPad() {
        String[] faulty = {"", "a", "/", ":", "01a", "0123456", "01234567890123", "0:1", "01234x"};
        for (String pad : faulty) {
            for (int sheet = 0; sheet < 6; sheet += 5) {
                int which = sheet;
                Look.refused("sheet(" + which + ") of " + pad, () -> laid(pad), x -> x.sheet(which), Due.NO);
            }
        }
        Look.refused("sheet(1), not there, of nothing", () -> laid(""), x -> x.sheet(1), Due.NO);
    }

    private static void sheetUnknownAheadOfNo() {
        Look.refused("sheet(-1) of nothing", () -> laid(""), x -> x.sheet(-1), Due.UNKNOWN);
        Look.refused("sheet(6) of a", () -> laid("a"), x -> x.sheet(6), Due.UNKNOWN);
        Look.refused("sheet(MAX) of 0123456", () -> laid("0123456"), x -> x.sheet(Integer.MAX_VALUE), Due.UNKNOWN);
    }

    private static void sheetEmptiesThePad() {
        LeadPress x = laid("999999");
        Due.due("sheet(1)", x.sheet(1), 6);
        Due.due("told(0)", x.told(0), 0);
        Due.due("sheet(3) of the empty pad", x.sheet(3), Due.NO);
        Due.due("not there", x.told(53), 0);
        Due.due("wipe()", x.wipe(), 0);
    }

    private static void sheetTakesThePlaceOfTheOldOne() {
        LeadPress x = laid("8");
        Due.due("sheet(2)", x.sheet(2), 1);
        Due.due("words", x.told(52), 1);
        Due.due("sheets", x.told(1), 37);
        for (int sort = 0; sort < 6; sort++) {
            Due.due("needs(2, " + sort + ")", x.needs(2, sort), sort == 5 ? 1 : 0);
        }
        Due.due("breaks", x.needs(2, -1), 5);
        Due.due("what was seen is as it was told", x.told(62), 1);
    }

    // ---- 7 take

    private static void takeTellsHowManyWords() {
        for (int words = 1; words <= 6; words++) {
            LeadPress x = laid("012345".substring(0, words));
            x.sheet(3);
            Due.due("take(3) of " + words, x.take(3), words);
            Due.due("told(53)", x.told(53), 0);
            Due.due("told(1)", x.told(1), 37);
            Due.due("take(3) again", x.take(3), 0);
        }
        LeadPress x = laid();
        Due.due("take(0)", x.take(0), 1);
        Due.due("take(5)", x.take(5), 2);
        Due.due("take(2)", x.take(2), 6);
        Due.due("told(1)", x.told(1), 0);
    }

    private static void takeUnknown() {
        for (int sheet : NO_SHEET) {
            Look.refused("take(" + sheet + ")", WordEdgesTest::laid, x -> x.take(sheet), Due.UNKNOWN);
        }
    }

    private static void takeOfOneThatIsNotThere() {
        int[] notThere = {1, 3, 4};
        for (int sheet : notThere) {
            Due.due("take(" + sheet + ")", laid().take(sheet), 0);
            Look.unchanged("take(" + sheet + ")", WordEdgesTest::laid, x -> x.take(sheet));
        }
    }

    /** A SHEET that is made again is as if it had never been taken. */
    private static void takeLeavesTheRest() {
        Look.same("take and sheet", WordEdgesTest::laid, () -> {
            LeadPress x = laid();
            x.take(2);
            Due.sheet(x, 2, "012345");
            return x;
        });
        LeadPress x = laid("502");
        x.take(5);
        Due.due("the pad stays", x.told(0), 3);
        Due.due("the pad as an order", x.fault(2), 0);
        Due.due("other sheets stay", x.told(52), 6);
    }

    // ---- 8 stand

    private static void standInsWithin() {
        for (int word = 0; word < 10; word++) {
            LeadPress x = new LeadPress();
            int was = Due.NONE;
            for (int other = 0; other < 10; other++) {
                if (other != word) {
                    Due.due("stand(" + word + ", " + other + ")", x.stand(word, other), was);
                    Due.due("told of it", x.told(40 + word), other);
                    was = other;
                }
            }
            Due.due("stand(" + word + ", -1)", x.stand(word, -1), was);
            Due.due("told of it", x.told(40 + word), Due.NONE);
        }
    }

    private static void standUnknown() {
        for (int word : NO_WORD) {
            Look.refused("stand(" + word + ", 1)", WordEdgesTest::laid, x -> x.stand(word, 1), Due.UNKNOWN);
            Look.refused("stand(" + word + ", -1)", WordEdgesTest::laid, x -> x.stand(word, -1), Due.UNKNOWN);
        }
    }

    private static void standOutside() {
        int[] outside = {-2, 10, -6, 11, 256, 1 << 31, Integer.MAX_VALUE};
        for (int other : outside) {
            Look.refused("stand(3, " + other + ")", WordEdgesTest::laid, x -> x.stand(3, other), Due.OUTSIDE);
            Look.refused("stand(0, " + other + ")", WordEdgesTest::laid, x -> x.stand(0, other), Due.OUTSIDE);
        }
        for (int word = 0; word < 10; word++) {
            int itself = word;
            Look.refused("stand of itself, " + word, WordEdgesTest::laid, x -> x.stand(itself, itself), Due.OUTSIDE);
        }
    }

    private static void standUnknownAheadOfOutside() {
        Look.refused("stand(10, 10)", WordEdgesTest::laid, x -> x.stand(10, 10), Due.UNKNOWN);
        Look.refused("stand(-1, -1)", WordEdgesTest::laid, x -> x.stand(-1, -1), Due.UNKNOWN);
        Look.refused("stand(-1, -2)", WordEdgesTest::laid, x -> x.stand(-1, -2), Due.UNKNOWN);
        Look.refused("stand(10, 11)", WordEdgesTest::laid, x -> x.stand(10, 11), Due.UNKNOWN);
        Look.refused("stand(MAX, MIN)", WordEdgesTest::laid,
            x -> x.stand(Integer.MAX_VALUE, Integer.MIN_VALUE), Due.UNKNOWN);
    }

    private static void standTellsWhichItWas() {
        LeadPress x = new LeadPress();
        Due.due("none, and none", x.stand(0, -1), Due.NONE);
        Due.due("none was", x.stand(0, 9), Due.NONE);
        Due.due("the same again", x.stand(0, 9), 9);
        Due.due("each for the other", x.stand(9, 0), Due.NONE);
        Due.due("word 0 was", x.stand(9, 1), 0);
        Due.due("the first still has its own", x.told(40), 9);
        Due.due("none any more", x.stand(0, -1), 9);
        Due.due("none was, again", x.stand(0, -1), Due.NONE);
    }

    // ---- 9 lay

    private static void layWithin() {
        for (int sort = 0; sort < 6; sort++) {
            LeadPress x = new LeadPress();
            int was = 9;
            for (int v = 0; v <= 99; v++) {
                Due.due("lay(" + sort + ", " + v + ")", x.lay(sort, v), was);
                Due.due("told of it", x.told(20 + sort), v);
                was = v;
            }
            Due.due("the same again", x.lay(sort, 99), 99);
            for (int other = 0; other < 6; other++) {
                Due.due("the other sorts stay", x.told(20 + other), other == sort ? 99 : 9);
            }
        }
    }

    private static void layUnknown() {
        for (int sort : NO_SORT) {
            Look.refused("lay(" + sort + ", 0)", WordEdgesTest::laid, x -> x.lay(sort, 0), Due.UNKNOWN);
        }
    }

    private static void layOutside() {
        int[] outside = {-1, 100, -99, 101, 256, 65536, 1 << 31, Integer.MAX_VALUE};
        for (int v : outside) {
            Look.refused("lay(0, " + v + ")", WordEdgesTest::laid, x -> x.lay(0, v), Due.OUTSIDE);
            Look.refused("lay(5, " + v + ")", WordEdgesTest::laid, x -> x.lay(5, v), Due.OUTSIDE);
        }
    }

    private static void layUnknownAheadOfOutside() {
        Look.refused("lay(6, 100)", WordEdgesTest::laid, x -> x.lay(6, 100), Due.UNKNOWN);
        Look.refused("lay(-1, -1)", WordEdgesTest::laid, x -> x.lay(-1, -1), Due.UNKNOWN);
        Look.refused("lay(MIN, MAX)", WordEdgesTest::laid,
            x -> x.lay(Integer.MIN_VALUE, Integer.MAX_VALUE), Due.UNKNOWN);
    }

    // ---- 10 set

    private static void setWithin(int which, int told, int greatest, int first) {
        LeadPress x = new LeadPress();
        int was = first;
        for (int v = 0; v <= greatest; v++) {
            Due.due("set(" + which + ", " + v + ")", x.set(which, v), was);
            Due.due("told of it", x.told(told), v);
            was = v;
        }
        Due.due("the same again", x.set(which, greatest), greatest);
        int[] all = {2, 3, 10, 11, 12, 13, 14, 15};
        int[] before = {0, 5, 2, 2, 2, 2, 2, 2};
        for (int i = 0; i < all.length; i++) {
            Due.due("told(" + all[i] + ")", x.told(all[i]), all[i] == told ? greatest : before[i]);
        }
        int[] outside = {-1, greatest + 1, -greatest, 256, 1 << 31, Integer.MAX_VALUE};
        for (int v : outside) {
            Look.refused("set(" + which + ", " + v + ")", WordEdgesTest::laid, y -> y.set(which, v), Due.OUTSIDE);
        }
    }

    private static void setLaw() {
        setWithin(0, 2, 3, 0);
    }

    private static void setFee() {
        setWithin(1, 3, 99, 5);
    }

    private static void setRents() {
        for (int sort = 0; sort < 6; sort++) {
            setWithin(10 + sort, 10 + sort, 99, 2);
        }
    }

    /** What can not be set is OUTSIDE, whatever it is set to. */
    private static void setOutside() {
        int[] outside = {-1, 2, 3, 9, 16, 17, 20, -10, 256, 266, 1 << 31, Integer.MAX_VALUE};
        int[] to = {0, 3, 99, -1, 100};
        for (int which : outside) {
            for (int v : to) {
                Look.refused("set(" + which + ", " + v + ")", WordEdgesTest::laid, x -> x.set(which, v), Due.OUTSIDE);
            }
        }
    }

    // ---- 11 needs

    private static void needsTogether() {
        for (int sort = 0; sort < 6; sort++) {
            LeadPress x = new LeadPress();
            String letter = "" + (char) ('a' + sort);
            Due.word(x, 0, letter.repeat(5));
            Due.word(x, 1, letter);
            Due.sheet(x, 5, "000000");
            Due.sheet(x, 0, "1");
            Due.sheet(x, 1, "01");
            for (int other = 0; other < 6; other++) {
                Due.due("thirty of one sort", x.needs(5, other), other == sort ? 30 : 0);
                Due.due("one of one sort", x.needs(0, other), other == sort ? 1 : 0);
                Due.due("two words together", x.needs(1, other), other == sort ? 6 : 0);
            }
            for (int law = 0; law < 4; law++) {
                x.set(0, law);
                Due.due("breaks the only sort", x.needs(5, -1), sort);
                Due.due("breaks the only letter", x.needs(0, -1), sort);
            }
        }
    }

    private static void needsOfOneThatIsNotThere() {
        LeadPress x = laid();
        x.take(2);
        for (int law = 0; law < 4; law++) {
            x.set(0, law);
            for (int sheet = 1; sheet < 5; sheet++) {
                Due.due("breaks", x.needs(sheet, -1), Due.NONE);
                for (int sort = 0; sort < 6; sort++) {
                    Due.due("needs", x.needs(sheet, sort), 0);
                }
            }
        }
    }

    private static void needsUnknown() {
        for (int sheet : NO_SHEET) {
            Look.refused("needs(" + sheet + ", 0)", WordEdgesTest::laid, x -> x.needs(sheet, 0), Due.UNKNOWN);
            Look.refused("needs(" + sheet + ", -1)", WordEdgesTest::laid, x -> x.needs(sheet, -1), Due.UNKNOWN);
        }
        for (int sort : NO_SORT) {
            if (sort != -1) {
                Look.refused("needs(2, " + sort + ")", WordEdgesTest::laid, x -> x.needs(2, sort), Due.UNKNOWN);
                Look.refused("needs(1, " + sort + ")", WordEdgesTest::laid, x -> x.needs(1, sort), Due.UNKNOWN);
                Look.refused("needs(6, " + sort + ")", WordEdgesTest::laid, x -> x.needs(6, sort), Due.UNKNOWN);
            }
        }
    }

    private static void breaks(int law, String words, int want) {
        LeadPress x = new LeadPress();
        x.set(0, law);
        String[] parts = words.split(" ");
        StringBuilder places = new StringBuilder();
        for (int i = 0; i < parts.length; i++) {
            Due.word(x, i, parts[i]);
            places.append(i);
        }
        Due.sheet(x, 3, places.toString());
        Due.due("by law " + law + " breaks of " + words, x.needs(3, -1), want);
    }

    private static void breaksWhatItNeedsMost() {
        breaks(0, "f", 5);
        breaks(0, "ff ee", 4);
        breaks(0, "fedcb", 1);
        breaks(0, "fedcb f", 5);
        breaks(0, "ab ba", 0);
        breaks(0, "bba a", 0);
        breaks(0, "bbaab", 1);
        breaks(0, "fff eee f", 5);
        breaks(0, "cd dc e", 2);
    }

    private static void breaksWhatItNeedsFewest() {
        breaks(1, "f", 5);
        breaks(1, "ff ee", 4);
        breaks(1, "fedcb", 1);
        breaks(1, "bcdef bcde", 5);
        breaks(1, "aab b", 0);
        breaks(1, "aaab b", 1);
        breaks(1, "ccc ddd e f", 4);
        breaks(1, "aa bbb", 0);
        breaks(1, "aaa bb", 1);
    }

    private static void breaksTheFirstOfItsFirstWord() {
        breaks(2, "f", 5);
        breaks(2, "fa ab", 5);
        breaks(2, "abcde f", 0);
        breaks(2, "edcba a a a a b", 4);
    }

    private static void breaksTheLastOfItsLastWord() {
        breaks(3, "f", 5);
        breaks(3, "fa ab", 1);
        breaks(3, "abcdf", 5);
        breaks(3, "abcde f", 5);
        breaks(3, "f abcde", 4);
        breaks(3, "f f f f f edcba", 0);
    }
}
