/** Promises 17 to 19 at their edges: loans, presses, melt. A method for each sentence. */
public final class LeadEdgesTest {
    public static void main(String[] args) {
        loansOfNothing();
        loansOfOneForOneSheet();
        loansOfTheMost();
        loansBySorts();
        loansAsManyAsAreTooFew();
        loansStayForSheetsThatDoNotWantThem();
        loansOfSeveralStayEachForItself();
        loansAreGivenBackWhole();
        loansGoOnBehindOneThatCanNotBeSet();
        loansUnknown();
        loansOfFaultyPad();
        pressesJustEnoughForBoth();
        pressesWithPlenty();
        pressesOneByOne();
        pressesNone();
        pressesFewestSteps();
        pressesBreakInEachStep();
        pressesKeepTheRows();
        pressesOfFaultyPad();
        meltAheadOfEachPlace();
        meltJustEnough();
        meltMostInTheCase();
        meltNothingInTheCase();
        meltOfAnOrderThatCanBe();
        meltAheadOfWhatCanNotBe();
        meltTheGreatestOfNeeds();
        meltWhatIsBrokenAheadOfAPlace();
        meltLeavesTheRestToA();
        meltNone();
        meltUnknown();
        meltOfFaultyPad();
        askingChangesNothing();
        Due.end();
    }

    /** SHEETS of one WORD each, from SHEET 0 on; THE CASE is empty. */
    private static LeadPress of(String... words) {
        LeadPress x = new LeadPress();
        for (int sheet = 0; sheet < words.length; sheet++) {
            Due.word(x, sheet, words[sheet]);
            Due.sheet(x, sheet, "" + sheet);
        }
        Due.stock(x, 0, 0, 0, 0, 0, 0);
        return x;
    }

    private static LeadPress on(LeadPress x, String pad) {
        Due.pad(x, pad);
        return x;
    }

    private static final String[] FAULTY = {"", "6", "/", "a", ":", "00", "010", "0:1", "01:", "0123450", "01a"};

    // ---- 17 loans

    private static void cost(LeadPress x, String order, int sort, int want) {
        Due.pad(x, order);
        Due.due("loans(" + sort + ") in " + order, x.loans(sort), want);
    }

    private static void loansOfNothing() {
        LeadPress x = of("abc", "abc");
        Due.stock(x, 2, 1, 1);
        for (int sort = -1; sort < 6; sort++) {
            cost(x, "01", sort, 0);
        }
        Due.stock(x, 1, 1, 1);
        cost(x, "0", -1, 0);
        cost(x, "01", -1, 7);
    }

    private static void loansOfOneForOneSheet() {
        int[] amounts = {0, 1, 98, 99};
        for (int sort = 0; sort < 6; sort++) {
            for (int fee : amounts) {
                for (int rent : amounts) {
                    LeadPress x = of("" + (char) ('a' + sort));
                    x.set(1, fee);
                    x.set(10 + sort, rent);
                    cost(x, "0", sort, fee + rent);
                    cost(x, "0", -1, fee + rent);
                    cost(x, "0", (sort + 1) % 6, 0);
                }
            }
        }
    }

    /** Thirty of one SORT for six SHEETS. */
    private static void loansOfTheMost() {
        for (int sort = 0; sort < 6; sort += 5) {
            LeadPress x = of(("" + (char) ('a' + sort)).repeat(5));
            for (int sheet = 0; sheet < 6; sheet++) {
                Due.sheet(x, sheet, "000000");
            }
            x.set(1, 99);
            x.set(10 + sort, 99);
            cost(x, "012345", sort, 30 * (99 + 6 * 99));
            cost(x, "012345", -1, 30 * (99 + 6 * 99));
            x.set(1, 0);
            cost(x, "012345", sort, 30 * 6 * 99);
            x.set(10 + sort, 0);
            cost(x, "012345", sort, 0);
            x.set(1, 99);
            cost(x, "012345", sort, 30 * 99);
            x.lay(sort, 29);
            cost(x, "0", sort, 99);
            x.lay(sort, 30);
            cost(x, "0", sort, 0);
        }
    }

    private static void loansBySorts() {
        LeadPress x = of("abcde", "f");
        Due.sheet(x, 0, "01");
        x.set(1, 3);
        int all = 0;
        for (int sort = 0; sort < 6; sort++) {
            x.set(10 + sort, 10 * sort);
            cost(x, "0", sort, 3 + 10 * sort);
            all += 3 + 10 * sort;
        }
        cost(x, "0", -1, all);
        x.lay(2, 1);
        cost(x, "0", 2, 0);
        cost(x, "0", -1, all - 23);
    }

    private static void loansAsManyAsAreTooFew() {
        LeadPress x = of("bbbbb");
        for (int amount = 0; amount <= 6; amount++) {
            x.lay(1, amount);
            cost(x, "0", 1, Math.max(0, 5 - amount) * 7);
        }
    }

    /** Between two SHEETS that want it stand 0 to 4 that do not: FEE 6, RENT 2. */
    private static void loansStayForSheetsThatDoNotWantThem() {
        String[] orders = {"05", "015", "0125", "01235", "012345"};
        int[] costs = {6 + 4, 6 + 6, 6 + 8, 6 + 10, 12 + 4};
        int[] dearRent = {6 + 14, 12 + 14, 12 + 14, 12 + 14, 12 + 14};
        LeadPress x = of("b", "a", "a", "a", "a", "b");
        x.lay(0, 99);
        x.set(1, 6);
        for (int i = 0; i < orders.length; i++) {
            x.set(11, 2);
            cost(x, orders[i], 1, costs[i]);
            x.set(11, 7);
            cost(x, orders[i], 1, dearRent[i]);
            x.set(11, 6);
            cost(x, orders[i], 1, i == 0 ? 18 : 24);
            x.set(11, 0);
            cost(x, orders[i], 1, 6);
        }
        x.set(1, 0);
        x.set(11, 9);
        cost(x, "012345", 1, 18);
        x.set(1, 99);
        x.set(11, 24);
        cost(x, "012345", 1, 99 + 6 * 24);
        x.set(11, 25);
        cost(x, "012345", 1, 2 * 99 + 2 * 25);
        cost(x, "1205", 1, 99 + 2 * 25);
        cost(x, "0512", 1, 99 + 2 * 25);
    }

    /** Wanted are 3, 1, 0, 2: one stays for all, one comes again, one goes for good. */
    private static void loansOfSeveralStayEachForItself() {
        LeadPress x = of("bbb", "ba", "a", "bb");
        x.lay(0, 99);
        x.set(0, 1);
        x.set(1, 5);
        x.set(11, 3);
        int stays = 5 + 4 * 3;
        int comesAgain = 5 + 3 + 5 + 3;
        int goes = 5 + 3;
        cost(x, "0123", 1, stays + comesAgain + goes);
        x.set(11, 2);
        cost(x, "0123", 1, 5 + 8 + 5 + 8 + 5 + 2);
        x.set(11, 6);
        cost(x, "0123", 1, 5 + 12 + 5 + 6 + 2 * 11 + 11);
        cost(x, "3012", 1, 2 * (5 + 12) + 11 + 6);
    }

    /** What is borrowed is not broken, and of none in THE CASE none is broken. */
    private static void loansAreGivenBackWhole() {
        LeadPress x = of("bb", "bb", "bb", "bb");
        cost(x, "0123", 1, 2 * (5 + 4 * 2));
        Due.stock(x, 0, 1);
        cost(x, "0", 1, 7);
        cost(x, "01", 1, 9 + 7);
        cost(x, "0123", 1, 13 + 11);
        cost(x, "0123", -1, 13 + 11);
        Due.stock(x, 0, 2);
        cost(x, "0123", 1, 11 + 9);
        cost(x, "0123", -1, 11 + 9);
        Due.stock(x, 0, 5);
        cost(x, "0123", 1, 0);
        Due.stock(x, 0, 4);
        cost(x, "0123", 1, 7);
        Due.due("the case is as it was", x.told(21), 4);
    }

    private static void loansGoOnBehindOneThatCanNotBeSet() {
        LeadPress x = of("a", "b", "c");
        cost(x, "012", 0, 7);
        cost(x, "012", 1, 7);
        cost(x, "012", 2, 7);
        cost(x, "012", -1, 21);
    }

    private static void loansUnknown() {
        int[] none = {-2, 6, -6, 7, 256, 1 << 31, Integer.MAX_VALUE};
        for (int sort : none) {
            Look.refused("loans(" + sort + ")", () -> on(of("a", "b"), "01"), x -> x.loans(sort), Due.UNKNOWN);
            Look.refused("loans(" + sort + ")", () -> on(of("a", "b"), ""), x -> x.loans(sort), Due.UNKNOWN);
            Look.refused("loans(" + sort + ")", () -> on(of("a", "b"), "0:1"), x -> x.loans(sort), Due.UNKNOWN);
        }
    }

    private static void loansOfFaultyPad() {
        for (String pad : FAULTY) {
            for (int sort = -1; sort < 6; sort++) {
                int which = sort;
                Look.refused("loans(" + sort + ") of " + pad, () -> on(of("a", "b"), pad), x -> x.loans(which),
                    Due.NO);
            }
        }
    }

    // ---- 18 presses

    private static void steps(LeadPress x, String rows, int want) {
        Due.pad(x, rows);
        Due.due("presses() by " + rows, x.presses(), want);
        Due.due("presses() again", x.presses(), want);
    }

    private static void pressesJustEnoughForBoth() {
        for (int sort = 0; sort < 6; sort++) {
            String letter = "" + (char) ('a' + sort);
            LeadPress x = of(letter.repeat(2), letter.repeat(3));
            int[] want = {Due.NONE, Due.NONE, Due.NONE, 2, 2, 1, 1};
            for (int amount = 0; amount < want.length; amount++) {
                x.lay(sort, amount);
                steps(x, "0:1", want[amount]);
                steps(x, "1:0", want[amount]);
            }
            x.lay(sort, 99);
            steps(x, "0:1", 1);
        }
    }

    private static void pressesWithPlenty() {
        LeadPress x = of("a", "b", "c", "d", "e", "f");
        Due.stock(x, 1, 1, 1, 1, 1, 1);
        for (int left = 1; left <= 5; left++) {
            for (int right = 1; left + right <= 6; right++) {
                String rows = "504132".substring(0, left) + ":" + "504132".substring(left, left + right);
                steps(x, rows, Math.max(left, right));
            }
        }
    }

    /** So scarce that no two can be at once. */
    private static void pressesOneByOne() {
        LeadPress x = of("cccca", "ccccb", "ccccd", "cccce", "ccccf", "cccc");
        x.set(0, 3);
        Due.stock(x, 1, 1, 7, 1, 1, 1);
        steps(x, "0:1", 2);
        steps(x, "012:34", 5);
        steps(x, "5:01234", 6);
        steps(x, "01234:5", 6);
        Due.stock(x, 1, 1, 8, 1, 1, 1);
        steps(x, "0:1", 1);
        steps(x, "012:34", 3);
    }

    private static void pressesNone() {
        LeadPress x = of("a", "a", "b");
        Due.stock(x, 1, 1);
        steps(x, "0:2", 1);
        steps(x, "0:1", Due.NONE);
        steps(x, "02:1", Due.NONE);
        steps(x, "2:01", Due.NONE);
        Due.stock(x, 2, 0);
        steps(x, "0:1", 1);
        steps(x, "0:2", Due.NONE);
        steps(x, "2:0", Due.NONE);
        steps(x, "01:2", Due.NONE);
    }

    /** Which two are at once makes it fewer: aa with b, not with aaa. */
    private static void pressesFewestSteps() {
        LeadPress x = of("aa", "b", "aaa", "c", "aaa");
        Due.stock(x, 4, 9, 9);
        steps(x, "0:12", 2);
        steps(x, "12:0", 2);
        steps(x, "0:21", 2);
        steps(x, "21:0", 2);
        steps(x, "03:12", 2);
        steps(x, "12:03", 2);
        steps(x, "13:20", 2);
        steps(x, "0:2", 2);
        steps(x, "0:24", 3);
        steps(x, "2:40", 3);
        Due.stock(x, 5);
        steps(x, "0:12", 2);
        steps(x, "0:2", 1);
        steps(x, "0:24", 2);
        steps(x, "2:40", 3);
        Due.stock(x, 6);
        steps(x, "2:40", 2);
    }

    /** In one STEP both are set by what was there ahead of it, and then two are gone. */
    private static void pressesBreakInEachStep() {
        LeadPress x = of("a", "a", "aaa", "a");
        x.lay(0, 6);
        steps(x, "0:1", 1);
        steps(x, "02:1", 2);
        steps(x, "02:13", 2);
        x.lay(0, 5);
        steps(x, "02:1", 2);
        steps(x, "02:13", 3);
        x.lay(0, 4);
        steps(x, "02:1", 3);
        steps(x, "02:13", 4);
        x.lay(0, 3);
        steps(x, "02:1", Due.NONE);
        steps(x, "20:1", 2);
    }

    private static void pressesKeepTheRows() {
        LeadPress x = of("aa", "a", "b");
        Due.stock(x, 2, 9);
        steps(x, "01:2", 2);
        steps(x, "10:2", Due.NONE);
        steps(x, "0:12", 3);
        steps(x, "0:21", 2);
        steps(x, "1:02", 2);
        steps(x, "1:20", 3);
    }

    private static void pressesOfFaultyPad() {
        String[] faulty = {"", "0", "01", ":", "0:", "0::1", ":0", "0:0", "0:2", "2:0", "0:1:", "0:1x", "01:", "a",
            "0:10", "00:1"};
        for (String pad : faulty) {
            Look.refused("presses() by " + pad, () -> on(of("a", "b"), pad), x -> x.presses(), Due.NO);
        }
    }

    // ---- 19 melt

    private static void melted(LeadPress x, String order, int place, int... amounts) {
        Due.pad(x, order);
        Due.due("melt(-1) for " + order, x.melt(-1), place);
        for (int sort = 0; sort < 6; sort++) {
            int want = place == Due.NONE ? Due.NONE : sort < amounts.length ? amounts[sort] : 0;
            Due.due("melt(" + sort + ") for " + order, x.melt(sort), want);
        }
    }

    /** Five SHEETS of one a with five of it, then one of so many b: they are there when so many a are done with. */
    private static void meltAheadOfEachPlace() {
        for (int few = 1; few <= 6; few++) {
            LeadPress x = of("a", "a", "a", "a", "a", "bbbbb");
            Due.word(x, 6, "b");
            Due.sheet(x, 5, "666666".substring(0, few));
            x.lay(0, 5);
            melted(x, "012345", few < 6 ? few : Due.NONE, 5 - few, few);
        }
    }

    private static void meltJustEnough() {
        LeadPress x = of("bcdef");
        for (int sort = 0; sort < 6; sort++) {
            Due.stock(x, 0, 0, 0, 0, 0, 0);
            x.lay(sort, 4);
            melted(x, "0", Due.NONE);
            x.lay(sort, 5);
            melted(x, "0", 0, 0, 1, 1, 1, 1, 1);
            x.lay(sort, 6);
            melted(x, "0", 0, 1, 1, 1, 1, 1, 1);
        }
        Due.stock(x, 1, 1, 1, 1, 0, 0);
        melted(x, "0", Due.NONE);
        Due.stock(x, 1, 1, 1, 1, 1, 0);
        melted(x, "0", 0, 0, 1, 1, 1, 1, 1);
    }

    private static void meltMostInTheCase() {
        LeadPress x = of("fffff");
        Due.sheet(x, 0, "000000");
        Due.stock(x, 99, 99, 99, 99, 99, 99);
        melted(x, "0", 0, 594 - 30, 0, 0, 0, 0, 30);
        Due.stock(x, 0, 0, 0, 0, 0, 29);
        melted(x, "0", Due.NONE);
        Due.stock(x, 0, 0, 30, 0, 0, 0);
        melted(x, "0", 0, 0, 0, 0, 0, 0, 30);
    }

    private static void meltNothingInTheCase() {
        melted(of("a"), "0", Due.NONE);
        melted(of("f", "a"), "01", Due.NONE);
        LeadPress x = of("f", "a");
        x.lay(3, 1);
        melted(x, "0", 0, 0, 0, 0, 0, 0, 1);
        melted(x, "1", 0, 1);
        melted(x, "01", Due.NONE);
        x.lay(3, 2);
        melted(x, "01", 0, 1, 0, 0, 0, 0, 1);
    }

    /** An ORDER that CAN be SET can be so after melting ahead of all of it. */
    private static void meltOfAnOrderThatCanBe() {
        LeadPress x = of("a", "b", "c", "d", "e", "f");
        Due.stock(x, 1, 1, 1, 1, 1, 1);
        melted(x, "012345", 0, 1, 1, 1, 1, 1, 1);
        melted(x, "5", 0, 5, 0, 0, 0, 0, 1);
        Due.pad(x, "012345");
        Due.due("it can be set", x.judge(0), Due.NONE);
    }

    /** SHEETS ahead of the melting are set from THE CASE as it was. */
    private static void meltAheadOfWhatCanNotBe() {
        LeadPress x = of("a", "a", "a", "bbb");
        Due.stock(x, 2, 0, 1);
        melted(x, "0123", Due.NONE);
        Due.stock(x, 2, 0, 2);
        melted(x, "0123", 2, 1, 3);
        Due.stock(x, 3, 0, 0);
        melted(x, "0123", 3, 0, 3);
        Due.stock(x, 2, 0, 0);
        melted(x, "013", Due.NONE);
        Due.stock(x, 2, 0, 0, 1);
        melted(x, "013", 2, 0, 3);
    }

    private static void meltTheGreatestOfNeeds() {
        LeadPress x = of("bbbbb", "b", "bb", "cb");
        Due.stock(x, 40);
        melted(x, "0", 0, 35, 5);
        melted(x, "01", 0, 35, 5);
        melted(x, "10", 0, 34, 6);
        melted(x, "12", 0, 37, 3);
        melted(x, "21", 0, 38, 2);
        melted(x, "120", 0, 33, 7);
        melted(x, "3", 0, 38, 1, 1);
        melted(x, "31", 0, 37, 2, 1);
        x.set(0, 2);
        melted(x, "31", 0, 38, 1, 1);
        x.set(0, 3);
        melted(x, "31", 0, 37, 2, 1);
    }

    /** What was broken ahead of the melting becomes new with the rest. */
    private static void meltWhatIsBrokenAheadOfAPlace() {
        LeadPress x = of("aaa", "bbb");
        Due.stock(x, 3);
        melted(x, "01", 1, 0, 3);
        Due.stock(x, 5);
        melted(x, "01", 1, 2, 3);
        Due.stock(x, 6);
        melted(x, "01", 0, 3, 3);
        Due.stock(x, 3, 0, 0, 0, 0, 1);
        melted(x, "01", 1, 1, 3);
    }

    private static void meltLeavesTheRestToA() {
        LeadPress x = of("fe", "dc");
        Due.stock(x, 0, 10, 0, 0, 0, 0);
        melted(x, "0", 0, 8, 0, 0, 0, 1, 1);
        melted(x, "01", 0, 6, 0, 1, 1, 1, 1);
        LeadPress y = of("ab", "aab");
        Due.stock(y, 0, 0, 9);
        melted(y, "0", 0, 8, 1);
        melted(y, "01", 0, 8, 1);
        melted(y, "10", 0, 8, 1);
        Due.stock(y, 0, 0, 4);
        melted(y, "01", 0, 3, 1);
        Due.stock(y, 0, 0, 3);
        melted(y, "01", Due.NONE);
        melted(y, "10", 0, 2, 1);
    }

    private static void meltNone() {
        LeadPress x = of("a", "bb");
        x.lay(1, 1);
        melted(x, "1", Due.NONE);
        melted(x, "01", Due.NONE);
        melted(x, "0", 0, 1);
    }

    private static void meltUnknown() {
        int[] none = {-2, 6, -6, 7, 256, 1 << 31, Integer.MAX_VALUE};
        for (int sort : none) {
            Look.refused("melt(" + sort + ")", () -> on(of("a", "b"), "01"), x -> x.melt(sort), Due.UNKNOWN);
            Look.refused("melt(" + sort + ")", () -> on(of("a", "b"), ""), x -> x.melt(sort), Due.UNKNOWN);
            Look.refused("melt(" + sort + ")", () -> on(of("a", "b"), "011"), x -> x.melt(sort), Due.UNKNOWN);
        }
    }

    private static void meltOfFaultyPad() {
        for (String pad : FAULTY) {
            for (int sort = -1; sort < 6; sort++) {
                int which = sort;
                Look.refused("melt(" + sort + ") of " + pad, () -> on(of("a", "b"), pad), x -> x.melt(which),
                    Due.NO);
            }
        }
    }

    /** Nothing that is borrowed, printed or melted is so in THE CASE. */
    private static void askingChangesNothing() {
        String[] pads = {"120", "12:0", "2"};
        for (String pad : pads) {
            Look.Maker made = () -> {
                LeadPress x = of("ab", "bbc", "f");
                Due.stock(x, 1, 3, 1, 2);
                x.image(0);
                return on(x, pad);
            };
            for (int sort = -1; sort < 6; sort++) {
                int which = sort;
                Look.unchanged("loans(" + sort + ") of " + pad, made, x -> x.loans(which));
                Look.unchanged("melt(" + sort + ") of " + pad, made, x -> x.melt(which));
            }
            Look.unchanged("presses() by " + pad, made, x -> x.presses());
        }
    }
}
