/** Promises 1 to 4 at their edges: a new object, say, wipe, fault. A method for each sentence. */
public final class PadEdgesTest {
    private static final int AS_WORD = 0, AS_SHEET = 1, AS_ORDER = 2, AS_ROWS = 3;

    public static void main(String[] args) {
        newWordsAreOneA();
        newSheetsAreNotThere();
        newCaseHasNine();
        newPadIsEmpty();
        newSettings();
        newImagesAreNotKept();
        newObjectsShareNothing();
        codesOfSigns();
        codesOutside();
        fourteenSigns();
        fullChangesNothing();
        outsideAheadOfFull();
        wipeTellsHowMany();
        wipeLeavesTheRest();
        faultHow();
        faultOfEmptyPad();
        lettersOfWord();
        lengthOfWord();
        digitsOfSheet();
        lengthOfSheet();
        digitsOfOrder();
        lengthOfOrder();
        sheetsUnlikeInOrder();
        sheetsThereInOrder();
        moreMustCome();
        colonOfRows();
        sheetsUnlikeInRows();
        lengthOfRows();
        firstFaultOfSeveral();
        onePadReadInFourWays();
        faultFollowsTheSheets();
        Due.end();
    }

    private static LeadPress withSheets(String sheets) {
        LeadPress x = new LeadPress();
        for (char digit : sheets.toCharArray()) {
            x.say('0');
            x.sheet(digit - '0');
        }
        return x;
    }

    private static void fault(LeadPress x, String text, int how, int want) {
        Due.pad(x, text);
        Due.due("fault(" + how + ") of " + text, x.fault(how), want);
    }

    // ---- 1 a new object

    private static void newWordsAreOneA() {
        for (int word = 0; word < 10; word++) {
            LeadPress x = new LeadPress();
            Due.due("letters of a new word", x.told(30 + word), 1);
            Due.due("no other word could be meant", x.known(word, 63), 1);
            Due.sheet(x, 0, "" + word);
            for (int sort = 0; sort < 6; sort++) {
                Due.due("needs of a new word " + word, x.needs(0, sort), sort == 0 ? 1 : 0);
            }
        }
    }

    private static void newSheetsAreNotThere() {
        LeadPress x = new LeadPress();
        Due.due("sheets that are there", x.told(1), 0);
        for (int sheet = 0; sheet < 6; sheet++) {
            Due.due("words of a new sheet", x.told(50 + sheet), 0);
            Due.due("what a new sheet breaks", x.needs(sheet, -1), Due.NONE);
            fault(x, "" + sheet, AS_ORDER, 0);
            Due.due("a new sheet is taken", x.take(sheet), 0);
        }
    }

    /** Nine can be set and ten can not. */
    private static void newCaseHasNine() {
        for (int sort = 0; sort < 6; sort++) {
            LeadPress x = new LeadPress();
            Due.due("told of the case", x.told(20 + sort), 9);
            Due.word(x, 1, ("" + (char) ('a' + sort)).repeat(4));
            Due.word(x, 2, ("" + (char) ('a' + sort)).repeat(5));
            Due.sheet(x, 0, "12");
            Due.sheet(x, 1, "22");
            Due.pad(x, "0");
            Due.due("nine of a sort", x.judge(0), Due.NONE);
            Due.pad(x, "1");
            Due.due("ten of a sort", x.judge(2), 1);
            Due.due("ten of a sort", x.judge(1), sort);
        }
    }

    private static void newPadIsEmpty() {
        Due.due("signs on a new pad", new LeadPress().told(0), 0);
        Due.due("signs that go from a new pad", new LeadPress().wipe(), 0);
        Due.due("the first sign on a new pad", new LeadPress().say('a'), 1);
    }

    private static void newSettings() {
        LeadPress x = new LeadPress();
        Due.due("the law", x.told(2), 0);
        Due.due("the fee", x.told(3), 5);
        for (int i = 0; i < 6; i++) {
            Due.due("a rent", x.told(10 + i), 2);
            Due.due("what was seen", x.told(60 + i), Due.NONE);
        }
        for (int word = 0; word < 10; word++) {
            Due.due("a stand-in", x.told(40 + word), Due.NONE);
        }
    }

    private static void newImagesAreNotKept() {
        Look.refused("restore(0) of a new object", LeadPress::new, x -> x.restore(0), Due.STATE);
        Look.refused("restore(1) of a new object", LeadPress::new, x -> x.restore(1), Due.STATE);
    }

    private static void newObjectsShareNothing() {
        Look.same("another object beside it", LeadPress::new, () -> {
            LeadPress y = new LeadPress();
            LeadPress x = withSheets("05");
            Due.word(x, 9, "fed");
            x.lay(0, 0);
            x.set(0, 3);
            x.stand(0, 1);
            x.seen(0, 0);
            x.image(0);
            x.image(1);
            Due.pad(x, "05");
            return y;
        });
    }

    // ---- 2 say

    private static void codesOfSigns() {
        LeadPress x = new LeadPress();
        for (int code = 33; code <= 126; code++) {
            Due.due("say(" + code + ")", x.say(code), 1);
            Due.due("wipe()", x.wipe(), 1);
        }
    }

    private static void codesOutside() {
        int[] outside = {32, 127, 0, 1, 10, -1, -33, -126, 128, 160, 255, 256, 33 + 256, 126 + 256, 97 + 65536,
            97 + (1 << 31), Integer.MIN_VALUE, Integer.MAX_VALUE};
        for (int code : outside) {
            Look.refused("say(" + code + ")", () -> withSheets("0"), x -> x.say(code), Due.OUTSIDE);
        }
    }

    private static void fourteenSigns() {
        LeadPress x = new LeadPress();
        for (int i = 1; i <= 14; i++) {
            Due.due("sign " + i, x.say('a'), i);
            Due.due("told(0)", x.told(0), i);
        }
        Due.due("sign 15", x.say('a'), Due.FULL);
        Due.due("sign 15 again", x.say('a'), Due.FULL);
        Due.due("told(0)", x.told(0), 14);
        Due.due("wipe()", x.wipe(), 14);
        Due.due("there is room again", x.say('a'), 1);
    }

    private static LeadPress full() {
        LeadPress x = withSheets("01");
        Due.pad(x, "01:abcdef01234");
        return x;
    }

    private static void fullChangesNothing() {
        Look.refused("say(33) on a full pad", PadEdgesTest::full, x -> x.say(33), Due.FULL);
        Look.refused("say(126) on a full pad", PadEdgesTest::full, x -> x.say(126), Due.FULL);
        Look.refused("say(48) on a full pad", PadEdgesTest::full, x -> x.say(48), Due.FULL);
    }

    private static void outsideAheadOfFull() {
        Look.refused("say(32) on a full pad", PadEdgesTest::full, x -> x.say(32), Due.OUTSIDE);
        Look.refused("say(127) on a full pad", PadEdgesTest::full, x -> x.say(127), Due.OUTSIDE);
        Look.refused("say(MIN) on a full pad", PadEdgesTest::full, x -> x.say(Integer.MIN_VALUE), Due.OUTSIDE);
        Look.refused("say(MAX) on a full pad", PadEdgesTest::full, x -> x.say(Integer.MAX_VALUE), Due.OUTSIDE);
    }

    // ---- 3 wipe

    private static void wipeTellsHowMany() {
        for (int signs = 0; signs <= 14; signs++) {
            LeadPress x = new LeadPress();
            Due.pad(x, "abcdefabcdefab".substring(0, signs));
            Due.due("wipe() of " + signs, x.wipe(), signs);
            Due.due("told(0)", x.told(0), 0);
            Due.due("wipe() again", x.wipe(), 0);
            Due.due("fault(0)", x.fault(AS_WORD), 0);
        }
    }

    private static void wipeLeavesTheRest() {
        Look.unchanged("wipe() of an empty pad", () -> withSheets("035"), x -> x.wipe());
        Look.same("say and wipe", () -> withSheets("035"), () -> {
            LeadPress x = withSheets("035");
            Due.pad(x, "zzz");
            Due.due("wipe()", x.wipe(), 3);
            return x;
        });
    }

    // ---- 4 fault

    private static void faultHow() {
        int[] outside = {-1, 4, 5, 256, 65536, 1 << 31, Integer.MAX_VALUE};
        String[] pads = {"", "a", "0", "0:1", "~"};
        for (String text : pads) {
            Look.Maker made = () -> {
                LeadPress x = withSheets("01");
                Due.pad(x, text);
                return x;
            };
            for (int how : outside) {
                Look.refused("fault(" + how + ") of " + text, made, x -> x.fault(how), Due.OUTSIDE);
            }
            for (int how = 0; how <= 3; how++) {
                int answer = made.make().fault(how);
                Due.due("fault(" + how + ") of " + text + " is told", answer == Due.NONE || answer >= 0 ? 1 : 0, 1);
            }
        }
    }

    private static void faultOfEmptyPad() {
        LeadPress none = new LeadPress();
        LeadPress all = withSheets("012345");
        for (int how = 0; how <= 3; how++) {
            Due.due("fault(" + how + ") of nothing", none.fault(how), 0);
            Due.due("fault(" + how + ") of nothing", all.fault(how), 0);
        }
    }

    /** Each sign as the first, as the second and as the fifth of a WORD. */
    private static void lettersOfWord() {
        for (int code = 33; code <= 126; code++) {
            LeadPress x = new LeadPress();
            boolean letter = code >= 'a' && code <= 'f';
            fault(x, "" + (char) code, AS_WORD, letter ? Due.NONE : 0);
            fault(x, "a" + (char) code, AS_WORD, letter ? Due.NONE : 1);
            fault(x, "aaaa" + (char) code, AS_WORD, letter ? Due.NONE : 4);
        }
    }

    private static void lengthOfWord() {
        for (int letters = 0; letters <= 14; letters++) {
            int want = letters == 0 ? 0 : letters <= 5 ? Due.NONE : 5;
            fault(new LeadPress(), "abcdefabcdefab".substring(0, letters), AS_WORD, want);
        }
    }

    private static void digitsOfSheet() {
        for (int code = 33; code <= 126; code++) {
            LeadPress x = new LeadPress();
            boolean digit = code >= '0' && code <= '9';
            fault(x, "" + (char) code, AS_SHEET, digit ? Due.NONE : 0);
            fault(x, "0" + (char) code, AS_SHEET, digit ? Due.NONE : 1);
            fault(x, "00000" + (char) code, AS_SHEET, digit ? Due.NONE : 5);
        }
    }

    private static void lengthOfSheet() {
        for (int words = 0; words <= 14; words++) {
            int want = words == 0 ? 0 : words <= 6 ? Due.NONE : 6;
            fault(new LeadPress(), "01234567890123".substring(0, words), AS_SHEET, want);
            fault(new LeadPress(), "99999999999999".substring(0, words), AS_SHEET, want);
        }
    }

    private static void digitsOfOrder() {
        for (int code = 33; code <= 126; code++) {
            LeadPress x = withSheets("012345");
            boolean digit = code >= '0' && code <= '5';
            fault(x, "" + (char) code, AS_ORDER, digit ? Due.NONE : 0);
            fault(x, "" + (char) code, AS_ROWS, digit ? 1 : 0);
            x.take(3);
            fault(x, "" + (char) code, AS_ORDER, digit && code != '3' ? Due.NONE : 0);
        }
    }

    private static void lengthOfOrder() {
        LeadPress x = withSheets("012345");
        for (int sheets = 1; sheets <= 6; sheets++) {
            fault(x, "543210".substring(0, sheets), AS_ORDER, Due.NONE);
        }
        for (char digit = '0'; digit <= '9'; digit++) {
            fault(x, "543210" + digit, AS_ORDER, 6);
        }
        fault(x, "54321054321054", AS_ORDER, 6);
    }

    private static void sheetsUnlikeInOrder() {
        LeadPress x = withSheets("012345");
        for (int again = 0; again < 6; again++) {
            fault(x, "012345".substring(0, again + 1) + again, AS_ORDER, again + 1);
        }
        fault(x, "012340", AS_ORDER, 5);
        fault(x, "50", AS_ORDER, Due.NONE);
        fault(x, "55", AS_ORDER, 1);
    }

    private static void sheetsThereInOrder() {
        for (int there = 0; there < 6; there++) {
            LeadPress x = withSheets("" + there);
            for (int sheet = 0; sheet < 6; sheet++) {
                fault(x, "" + sheet, AS_ORDER, sheet == there ? Due.NONE : 0);
                fault(x, "" + there + sheet, AS_ORDER, 1);
            }
        }
    }

    /** Nothing is wrong with the signs, but the ROWS are not whole. */
    private static void moreMustCome() {
        LeadPress x = withSheets("012345");
        fault(x, "", AS_ROWS, 0);
        for (int sheets = 1; sheets <= 6; sheets++) {
            fault(x, "012345".substring(0, sheets), AS_ROWS, sheets);
            fault(x, "012345".substring(0, sheets) + ":", AS_ROWS, sheets + 1);
        }
        LeadPress one = withSheets("4");
        fault(one, "4", AS_ROWS, 1);
        fault(one, "4:", AS_ROWS, 2);
        fault(one, "4:4", AS_ROWS, 2);
    }

    private static void colonOfRows() {
        LeadPress x = withSheets("012345");
        fault(x, ":", AS_ROWS, 0);
        fault(x, ":0", AS_ROWS, 0);
        fault(x, "0::", AS_ROWS, 2);
        fault(x, "0:1:", AS_ROWS, 3);
        fault(x, "01234:5:", AS_ROWS, 7);
        fault(x, "0:", AS_ORDER, 1);
        fault(x, ":", AS_ORDER, 0);
        fault(x, "0;1", AS_ROWS, 1);
        fault(x, "0/1", AS_ROWS, 1);
        fault(x, "0:1", AS_ROWS, Due.NONE);
    }

    private static void sheetsUnlikeInRows() {
        LeadPress x = withSheets("012345");
        for (int again = 0; again < 6; again++) {
            int want = again < 3 ? 4 : Due.NONE;
            fault(x, "012:" + again, AS_ROWS, want);
            fault(x, "345:" + again, AS_ROWS, again < 3 ? Due.NONE : 4);
        }
        fault(x, "00:1", AS_ROWS, 1);
        fault(x, "0:11", AS_ROWS, 3);
        LeadPress some = withSheets("05");
        fault(some, "0:5", AS_ROWS, Due.NONE);
        fault(some, "5:0", AS_ROWS, Due.NONE);
        fault(some, "0:1", AS_ROWS, 2);
        fault(some, "1:0", AS_ROWS, 0);
    }

    private static void lengthOfRows() {
        LeadPress x = withSheets("012345");
        for (int left = 1; left <= 5; left++) {
            for (int right = 1; left + right <= 6; right++) {
                String rows = "012345".substring(0, left) + ":" + "543210".substring(0, right);
                fault(x, rows, AS_ROWS, Due.NONE);
                if (left + right == 6) {
                    fault(x, rows + "0", AS_ROWS, 7);
                    fault(x, rows + "6", AS_ROWS, 7);
                }
            }
        }
        fault(x, "012:3450123450", AS_ROWS, 7);
    }

    private static void firstFaultOfSeveral() {
        LeadPress x = withSheets("01");
        fault(x, "xax", AS_WORD, 0);
        fault(x, "axax", AS_WORD, 1);
        fault(x, "abcdeg", AS_WORD, 5);
        fault(x, "0x0x", AS_SHEET, 1);
        fault(x, "02:2", AS_ORDER, 1);
        fault(x, "01:2", AS_ORDER, 2);
        fault(x, "0:22", AS_ROWS, 2);
        fault(x, "0::0", AS_ROWS, 2);
    }

    private static void onePadReadInFourWays() {
        LeadPress x = withSheets("012");
        Due.pad(x, "012");
        int[] digits = {0, Due.NONE, Due.NONE, 3};
        for (int how = 0; how <= 3; how++) {
            Due.due("fault(" + how + ") of 012", x.fault(how), digits[how]);
        }
        Due.pad(x, "01:2");
        int[] rows = {0, 2, 2, Due.NONE};
        for (int how = 0; how <= 3; how++) {
            Due.due("fault(" + how + ") of 01:2", x.fault(how), rows[how]);
        }
        Due.pad(x, "abc");
        int[] letters = {Due.NONE, 0, 0, 0};
        for (int how = 0; how <= 3; how++) {
            Due.due("fault(" + how + ") of abc", x.fault(how), letters[how]);
        }
    }

    /** The PAD stays as it is, and what can stand on it changes with the SHEETS. */
    private static void faultFollowsTheSheets() {
        LeadPress x = withSheets("013");
        Due.pad(x, "031");
        x.image(0);
        Due.due("all are there", x.fault(AS_ORDER), Due.NONE);
        x.take(1);
        Due.due("the last one is not there", x.fault(AS_ORDER), 2);
        x.take(0);
        Due.due("the first one is not there", x.fault(AS_ORDER), 0);
        x.restore(0);
        Due.due("all are there again", x.fault(AS_ORDER), Due.NONE);
    }
}
