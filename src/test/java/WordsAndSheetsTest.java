/** Promises 1 to 11. */
public final class WordsAndSheetsTest {
    public static void main(String[] args) {
        constants();
        newObject();
        say();
        wipe();
        faultOfWord();
        faultOfSheet();
        faultOfOrder();
        faultOfRows();
        word();
        sheet();
        take();
        stand();
        lay();
        set();
        needs();
        breaksByLaw();
        Due.end();
    }

    private static void constants() {
        Due.due("UNKNOWN", LeadPress.UNKNOWN, -1);
        Due.due("OUTSIDE", LeadPress.OUTSIDE, -2);
        Due.due("STATE", LeadPress.STATE, -3);
        Due.due("FULL", LeadPress.FULL, -4);
        Due.due("NO", LeadPress.NO, -5);
        Due.due("NONE", LeadPress.NONE, -6);
    }

    private static void newObject() {
        LeadPress x = new LeadPress();
        Due.due("told(0)", x.told(0), 0);
        Due.due("told(1)", x.told(1), 0);
        Due.due("told(2)", x.told(2), 0);
        Due.due("told(3)", x.told(3), 5);
        for (int i = 0; i < 6; i++) {
            Due.due("rent", x.told(10 + i), 2);
            Due.due("case", x.told(20 + i), 9);
            Due.due("words of sheet", x.told(50 + i), 0);
            Due.due("seen", x.told(60 + i), Due.NONE);
            Due.due("breaks", x.needs(i, -1), Due.NONE);
            Due.due("needs", x.needs(i, i), 0);
        }
        for (int i = 0; i < 10; i++) {
            Due.due("letters", x.told(30 + i), 1);
            Due.due("stand-in", x.told(40 + i), Due.NONE);
            Due.sheet(x, 0, "" + i);
            Due.due("word " + i + " is a", x.needs(0, 0), 1);
            Due.due("word " + i + " is a alone", x.needs(0, -1), 0);
        }
        Due.due("no image 0", x.restore(0), Due.STATE);
        Due.due("no image 1", x.restore(1), Due.STATE);
    }

    private static void say() {
        LeadPress x = new LeadPress();
        int[] outside = {32, 127, 0, -1, 128, 255, Integer.MIN_VALUE, Integer.MAX_VALUE, 33 + 65536};
        for (int sign : outside) {
            Due.due("say(" + sign + ")", x.say(sign), Due.OUTSIDE);
        }
        Due.due("told(0)", x.told(0), 0);
        Due.due("say(33)", x.say(33), 1);
        Due.due("say(126)", x.say(126), 2);
        for (int i = 3; i <= 14; i++) {
            Due.due("say", x.say('a'), i);
        }
        Due.due("fifteenth", x.say('a'), Due.FULL);
        Due.due("outside ahead of full", x.say(32), Due.OUTSIDE);
        Due.due("told(0)", x.told(0), 14);
    }

    private static void wipe() {
        LeadPress x = new LeadPress();
        Due.due("wipe()", x.wipe(), 0);
        Due.pad(x, "abc");
        Due.due("wipe()", x.wipe(), 3);
        Due.due("wipe()", x.wipe(), 0);
        Due.pad(x, "abcdefabcdefab");
        Due.due("full", x.say('a'), Due.FULL);
        Due.due("wipe()", x.wipe(), 14);
        Due.due("say", x.say('a'), 1);
    }

    private static void fault(LeadPress x, String text, int how, int want) {
        Due.pad(x, text);
        Due.due("fault(" + how + ") of " + text, x.fault(how), want);
        Due.due("the pad stays", x.told(0), text.length());
    }

    private static void faultOfWord() {
        LeadPress x = new LeadPress();
        Due.due("fault(-1)", x.fault(-1), Due.OUTSIDE);
        Due.due("fault(4)", x.fault(4), Due.OUTSIDE);
        Due.due("fault(MAX)", x.fault(Integer.MAX_VALUE), Due.OUTSIDE);
        Due.due("fault(MIN)", x.fault(Integer.MIN_VALUE), Due.OUTSIDE);
        fault(x, "", 0, 0);
        fault(x, "a", 0, Due.NONE);
        fault(x, "f", 0, Due.NONE);
        fault(x, "g", 0, 0);
        fault(x, "`", 0, 0);
        fault(x, "A", 0, 0);
        fault(x, "fedcb", 0, Due.NONE);
        fault(x, "fedcba", 0, 5);
        fault(x, "fedcbag", 0, 5);
        fault(x, "abg", 0, 2);
        fault(x, "ab1defg", 0, 2);
    }

    private static void faultOfSheet() {
        LeadPress x = new LeadPress();
        fault(x, "", 1, 0);
        fault(x, "0", 1, Due.NONE);
        fault(x, "9", 1, Due.NONE);
        fault(x, "/", 1, 0);
        fault(x, ":", 1, 0);
        fault(x, "990000", 1, Due.NONE);
        fault(x, "9900000", 1, 6);
        fault(x, "12a4", 1, 2);
    }

    private static LeadPress withSheets(String sheets) {
        LeadPress x = new LeadPress();
        for (int i = 0; i < sheets.length(); i++) {
            Due.sheet(x, sheets.charAt(i) - '0', "0");
        }
        return x;
    }

    private static void faultOfOrder() {
        LeadPress none = new LeadPress();
        fault(none, "", 2, 0);
        fault(none, "0", 2, 0);
        LeadPress x = withSheets("024");
        fault(x, "", 2, 0);
        fault(x, "0", 2, Due.NONE);
        fault(x, "420", 2, Due.NONE);
        fault(x, "421", 2, 2);
        fault(x, "404", 2, 2);
        fault(x, "4020", 2, 3);
        fault(x, "6", 2, 0);
        fault(x, "/", 2, 0);
        fault(x, "4:0", 2, 1);
        x.take(2);
        fault(x, "02", 2, 1);
        LeadPress all = withSheets("012345");
        fault(all, "543210", 2, Due.NONE);
        fault(all, "5432100", 2, 6);
        fault(all, "6", 2, 0);
    }

    private static void faultOfRows() {
        LeadPress x = withSheets("0135");
        fault(x, "", 3, 0);
        fault(x, ":", 3, 0);
        fault(x, "0", 3, 1);
        fault(x, "0:", 3, 2);
        fault(x, "0:1", 3, Due.NONE);
        fault(x, "0:0", 3, 2);
        fault(x, "0:2", 3, 2);
        fault(x, "0::1", 3, 2);
        fault(x, "0:1:", 3, 3);
        fault(x, "0:1:3", 3, 3);
        fault(x, "01:53", 3, Due.NONE);
        fault(x, "01:535", 3, 5);
        fault(x, "0135", 3, 4);
        fault(x, "0135:", 3, 5);
        fault(x, "0135:0", 3, 5);
        fault(x, "0a:1", 3, 1);
        LeadPress all = withSheets("012345");
        fault(all, "01234:5", 3, Due.NONE);
        fault(all, "0:12345", 3, Due.NONE);
        fault(all, "0:123455", 3, 7);
    }

    private static void word() {
        LeadPress x = new LeadPress();
        Due.due("empty pad", x.word(0), Due.NO);
        Due.pad(x, "fed1");
        Due.due("word(-1)", x.word(-1), Due.UNKNOWN);
        Due.due("word(10)", x.word(10), Due.UNKNOWN);
        String before = Due.state(x);
        Due.due("fault in it", x.word(0), Due.NO);
        Due.same("word", before, Due.state(x));
        Due.pad(x, "abcde");
        Due.due("word(9)", x.word(9), 5);
        Due.due("pad is empty", x.told(0), 0);
        Due.due("told(39)", x.told(39), 5);
        Due.due("told(38)", x.told(38), 1);
        Due.sheet(x, 0, "9");
        for (int sort = 0; sort < 6; sort++) {
            Due.due("needs", x.needs(0, sort), sort < 5 ? 1 : 0);
        }
        Due.word(x, 9, "f");
        Due.due("the sheet has the new word", x.needs(0, 5), 1);
        Due.due("none of the old one", x.needs(0, 1), 0);
        Due.due("breaks f", x.needs(0, -1), 5);
    }

    private static void sheet() {
        LeadPress x = new LeadPress();
        Due.due("empty pad", x.sheet(0), Due.NO);
        Due.due("sheet(-1)", x.sheet(-1), Due.UNKNOWN);
        Due.due("sheet(6)", x.sheet(6), Due.UNKNOWN);
        Due.pad(x, "123456");
        Due.due("sheet(5)", x.sheet(5), 6);
        Due.due("pad is empty", x.told(0), 0);
        Due.due("told(1)", x.told(1), 32);
        Due.due("told(55)", x.told(55), 6);
        Due.pad(x, "1234567");
        String before = Due.state(x);
        Due.due("too many", x.sheet(5), Due.NO);
        Due.same("sheet", before, Due.state(x));
        Due.sheet(x, 5, "00");
        Due.due("told(55)", x.told(55), 2);
        Due.due("needs(5, 0)", x.needs(5, 0), 2);
        Due.sheet(x, 0, "0");
        Due.due("told(1)", x.told(1), 33);
    }

    private static void take() {
        LeadPress x = new LeadPress();
        Due.due("take(-1)", x.take(-1), Due.UNKNOWN);
        Due.due("take(6)", x.take(6), Due.UNKNOWN);
        Due.due("not there", x.take(5), 0);
        Due.sheet(x, 5, "0123");
        Due.due("seen", x.seen(5, 3), Due.NONE);
        Due.due("there", x.take(5), 4);
        Due.due("not there any more", x.take(5), 0);
        Due.due("told(55)", x.told(55), 0);
        Due.due("needs", x.needs(5, 0), 0);
        Due.due("breaks", x.needs(5, -1), Due.NONE);
        Due.due("what was seen stays told", x.told(65), 3);
    }

    private static void stand() {
        LeadPress x = new LeadPress();
        Due.due("stand(-1, 0)", x.stand(-1, 0), Due.UNKNOWN);
        Due.due("stand(10, 0)", x.stand(10, 0), Due.UNKNOWN);
        Due.due("unknown ahead of outside", x.stand(10, 10), Due.UNKNOWN);
        Due.due("stand(0, 0)", x.stand(0, 0), Due.OUTSIDE);
        Due.due("stand(0, 10)", x.stand(0, 10), Due.OUTSIDE);
        Due.due("stand(0, -2)", x.stand(0, -2), Due.OUTSIDE);
        Due.due("stand(0, 9)", x.stand(0, 9), Due.NONE);
        Due.due("told(40)", x.told(40), 9);
        Due.due("stand(0, 1)", x.stand(0, 1), 9);
        Due.due("stand(0, -1)", x.stand(0, -1), 1);
        Due.due("stand(0, -1)", x.stand(0, -1), Due.NONE);
        Due.due("stand(9, 0)", x.stand(9, 0), Due.NONE);
        Due.due("stand(9, -1)", x.stand(9, -1), 0);
    }

    private static void lay() {
        LeadPress x = new LeadPress();
        Due.due("lay(-1, 0)", x.lay(-1, 0), Due.UNKNOWN);
        Due.due("lay(6, 100)", x.lay(6, 100), Due.UNKNOWN);
        Due.due("lay(0, -1)", x.lay(0, -1), Due.OUTSIDE);
        Due.due("lay(0, 100)", x.lay(0, 100), Due.OUTSIDE);
        Due.due("lay(0, 99)", x.lay(0, 99), 9);
        Due.due("lay(0, 0)", x.lay(0, 0), 99);
        Due.due("lay(5, 1)", x.lay(5, 1), 9);
        Due.due("lay(0, 3)", x.lay(0, 3), 0);
        Due.due("told(20)", x.told(20), 3);
        Due.due("told(25)", x.told(25), 1);
    }

    private static void set() {
        LeadPress x = new LeadPress();
        int[] outside = {-1, 2, 9, 16, Integer.MIN_VALUE, Integer.MAX_VALUE};
        for (int which : outside) {
            Due.due("set(" + which + ", 0)", x.set(which, 0), Due.OUTSIDE);
        }
        Due.due("set(0, -1)", x.set(0, -1), Due.OUTSIDE);
        Due.due("set(0, 4)", x.set(0, 4), Due.OUTSIDE);
        Due.due("set(0, 3)", x.set(0, 3), 0);
        Due.due("set(0, 1)", x.set(0, 1), 3);
        Due.due("set(1, -1)", x.set(1, -1), Due.OUTSIDE);
        Due.due("set(1, 100)", x.set(1, 100), Due.OUTSIDE);
        Due.due("set(1, 99)", x.set(1, 99), 5);
        Due.due("set(1, 0)", x.set(1, 0), 99);
        for (int which = 10; which <= 15; which++) {
            Due.due("set of a rent, 100", x.set(which, 100), Due.OUTSIDE);
            Due.due("set of a rent, -1", x.set(which, -1), Due.OUTSIDE);
            Due.due("set of a rent", x.set(which, which), 2);
            Due.due("set of a rent", x.set(which, 99), which);
        }
        Due.due("the law stays", x.told(2), 1);
        Due.due("the fee stays", x.told(3), 0);
    }

    private static void needs() {
        LeadPress x = new LeadPress();
        Due.word(x, 1, "abbbc");
        Due.word(x, 2, "cf");
        Due.sheet(x, 3, "112");
        int[] want = {2, 6, 3, 0, 0, 1};
        for (int sort = 0; sort < 6; sort++) {
            Due.due("needs(3, " + sort + ")", x.needs(3, sort), want[sort]);
        }
        Due.due("needs(-1, 0)", x.needs(-1, 0), Due.UNKNOWN);
        Due.due("needs(6, -1)", x.needs(6, -1), Due.UNKNOWN);
        Due.due("needs(3, 6)", x.needs(3, 6), Due.UNKNOWN);
        Due.due("needs(3, -2)", x.needs(3, -2), Due.UNKNOWN);
        Due.due("not there: needs none", x.needs(2, 0), 0);
        Due.due("not there: breaks none", x.needs(2, -1), Due.NONE);
        Due.due("not there, no such sort", x.needs(2, 6), Due.UNKNOWN);
        Due.word(x, 0, "fffff");
        Due.sheet(x, 0, "000000");
        Due.due("the most", x.needs(0, 5), 30);
    }

    private static void breaks(LeadPress x, int law, int want) {
        x.set(0, law);
        Due.due("breaks by law " + law, x.needs(0, -1), want);
    }

    private static void breaksByLaw() {
        LeadPress x = new LeadPress();
        Due.word(x, 1, "ebb");
        Due.word(x, 2, "cf");
        Due.word(x, 3, "cd");
        Due.sheet(x, 0, "123");
        breaks(x, 0, 1);
        breaks(x, 1, 3);
        breaks(x, 2, 4);
        breaks(x, 3, 3);
        Due.sheet(x, 0, "321");
        breaks(x, 0, 1);
        breaks(x, 1, 3);
        breaks(x, 2, 2);
        breaks(x, 3, 1);
        Due.sheet(x, 0, "2");
        breaks(x, 0, 2);
        breaks(x, 1, 2);
        breaks(x, 2, 2);
        breaks(x, 3, 5);
    }
}
