/** Promises 12 to 16. */
public final class OrdersTest {
    public static void main(String[] args) {
        judge();
        judgeHowFar();
        orders();
        first();
        most();
        changes();
        changesByLaw();
        leastPlaces();
        changesRefused();
        queriesChangeNothing();
        Due.end();
    }

    /** Sheets 0: aab, 1: bb, 2: abc. */
    private static LeadPress small() {
        LeadPress x = new LeadPress();
        Due.word(x, 0, "aab");
        Due.word(x, 1, "bb");
        Due.word(x, 2, "abc");
        Due.sheet(x, 0, "0");
        Due.sheet(x, 1, "1");
        Due.sheet(x, 2, "2");
        return x;
    }

    private static void judged(LeadPress x, String order, int place, int sort, int few) {
        Due.pad(x, order);
        Due.due("judge(0) of " + order, x.judge(0), place);
        Due.due("judge(1) of " + order, x.judge(1), sort);
        Due.due("judge(2) of " + order, x.judge(2), few);
        Due.due("the pad stays", x.told(0), order.length());
    }

    private static void judge() {
        LeadPress x = small();
        Due.due("no order", x.judge(0), Due.NO);
        Due.due("judge(-1)", x.judge(-1), Due.OUTSIDE);
        Due.due("judge(3)", x.judge(3), Due.OUTSIDE);
        Due.pad(x, "03");
        Due.due("a sheet that is not there", x.judge(0), Due.NO);
        Due.due("outside ahead of no", x.judge(3), Due.OUTSIDE);
        judged(x, "012", Due.NONE, Due.NONE, Due.NONE);
        Due.stock(x, 3, 3, 1);
        judged(x, "012", Due.NONE, Due.NONE, Due.NONE);
        Due.stock(x, 2, 2, 1);
        judged(x, "012", Due.NONE, Due.NONE, Due.NONE);
        judged(x, "201", 1, 0, 1);
        judged(x, "102", Due.NONE, Due.NONE, Due.NONE);
        judged(x, "2", Due.NONE, Due.NONE, Due.NONE);
        Due.stock(x, 2, 2, 0);
        judged(x, "012", 2, 2, 1);
    }

    private static void judgeHowFar() {
        LeadPress x = new LeadPress();
        Due.word(x, 0, "bbbcc");
        Due.word(x, 1, "ccc");
        Due.sheet(x, 0, "00");
        Due.sheet(x, 5, "0111");
        Due.stock(x, 0, 6, 10);
        judged(x, "05", 1, 2, 1);
        Due.stock(x, 0, 0, 0);
        judged(x, "05", 0, 1, 6);
        judged(x, "50", 0, 1, 3);
        Due.stock(x, 0, 9, 1);
        judged(x, "50", 0, 2, 10);
    }

    private static void orders() {
        LeadPress x = new LeadPress();
        Due.due("no sheets", x.orders(), 1);
        for (int sheet = 0; sheet < 6; sheet++) {
            Due.sheet(x, sheet, "0");
        }
        Due.due("all six", x.orders(), 720);
        Due.stock(x, 6);
        Due.due("just enough", x.orders(), 720);
        Due.stock(x, 5);
        Due.due("one too few", x.orders(), 0);
        x.take(3);
        Due.due("five", x.orders(), 120);
        LeadPress y = small();
        Due.due("three", y.orders(), 6);
        Due.stock(y, 2, 2, 1);
        Due.due("0 ahead of 2", y.orders(), 3);
        seenDoesNotMatter(y);
    }

    private static void seenDoesNotMatter(LeadPress x) {
        Due.due("seen", x.seen(0, 9), Due.NONE);
        Due.due("none fits", x.fits(), 0);
        Due.due("orders()", x.orders(), 3);
        x.fits();
        Due.due("first(0)", x.first(0), 0);
        x.fits();
        Due.due("most(0)", x.most(0), 3);
    }

    private static void firstIs(LeadPress x, String order) {
        for (int i = 0; i < order.length(); i++) {
            Due.due("first(" + i + ")", x.first(i), order.charAt(i) - '0');
        }
        Due.due("first behind it", x.first(order.length()), Due.NONE);
        Due.due("first(-1)", x.first(-1), Due.NONE);
        Due.due("first(6)", x.first(6), Due.NONE);
        Due.due("first(MAX)", x.first(Integer.MAX_VALUE), Due.NONE);
        Due.due("first(MIN)", x.first(Integer.MIN_VALUE), Due.NONE);
    }

    private static void first() {
        LeadPress x = new LeadPress();
        firstIs(x, "");
        for (int sheet = 5; sheet >= 0; sheet--) {
            Due.sheet(x, sheet, "0");
        }
        firstIs(x, "012345");
        Due.stock(x, 3);
        firstIs(x, "");
        LeadPress y = small();
        Due.stock(y, 2, 2, 1);
        firstIs(y, "012");
        Due.sheet(y, 2, "00");
        Due.stock(y, 4, 4);
        firstIs(y, "120");
    }

    private static void most() {
        LeadPress x = new LeadPress();
        Due.due("most(-1)", x.most(-1), Due.OUTSIDE);
        Due.due("most(2)", x.most(2), Due.OUTSIDE);
        Due.due("no sheets", x.most(0), 0);
        Due.due("no sheets", x.most(1), 0);
        for (int sheet = 0; sheet < 6; sheet++) {
            Due.sheet(x, sheet, "0");
        }
        Due.due("all", x.most(0), 6);
        Due.due("all", x.most(1), 63);
        Due.stock(x, 2);
        Due.due("two", x.most(0), 2);
        Due.due("the least two", x.most(1), 3);
        Due.sheet(x, 0, "000");
        Due.due("two", x.most(0), 2);
        Due.due("the least two that can", x.most(1), 6);
        Due.sheet(x, 1, "00");
        Due.due("the greater one ahead", x.most(1), 6);
        Due.stock(x, 0);
        Due.due("none", x.most(0), 0);
        Due.due("none", x.most(1), 0);
    }

    private static void changed(LeadPress x, String order, int... want) {
        Due.pad(x, order);
        for (int i = -1; i < want.length - 1; i++) {
            Due.due("changes(" + i + ") of " + order, x.changes(i), want[i + 1]);
        }
        Due.due("the pad stays", x.told(0), order.length());
    }

    private static void changes() {
        LeadPress x = new LeadPress();
        Due.word(x, 1, "b");
        Due.word(x, 2, "c");
        Due.word(x, 3, "aa");
        Due.sheet(x, 0, "000");
        Due.sheet(x, 1, "00");
        x.stand(0, 1);
        Due.stock(x, 9, 9, 9);
        changed(x, "01", 0, 0, 0, Due.NONE);
        Due.stock(x, 2, 9, 9);
        changed(x, "01", 2, 1, 1, Due.NONE);
        changed(x, "10", 2, 0, 3, Due.NONE);
        Due.stock(x, 2, 1, 9);
        changed(x, "0", 1, 1, Due.NONE);
        Due.stock(x, 1, 2, 9);
        changed(x, "0", 2, 3, Due.NONE);
        Due.stock(x, 0, 2, 9);
        changed(x, "0", Due.NONE, Due.NONE, Due.NONE);
        x.stand(1, 2);
        changed(x, "0", Due.NONE, Due.NONE, Due.NONE);
        Due.stock(x, 0, 3, 0);
        changed(x, "0", 3, 7, Due.NONE);
        x.stand(0, -1);
        changed(x, "0", Due.NONE, Due.NONE);
        x.stand(0, 3);
        changed(x, "0", Due.NONE, Due.NONE);
    }

    /** By a change a sheet breaks another sort, which helps the next one. */
    private static void changesByLaw() {
        LeadPress x = new LeadPress();
        Due.word(x, 0, "ab");
        Due.word(x, 1, "ba");
        Due.sheet(x, 0, "0");
        Due.sheet(x, 1, "0");
        x.stand(0, 1);
        Due.stock(x, 1, 2);
        x.set(0, 2);
        changed(x, "01", 1, 1, 0);
        x.set(0, 3);
        changed(x, "01", 0, 0, 0);
        Due.stock(x, 2, 1);
        changed(x, "01", 1, 1, 0);
        x.set(0, 0);
        changed(x, "01", 0, 0, 0);
        Due.stock(x, 1, 2);
        changed(x, "01", Due.NONE, Due.NONE, Due.NONE);
        x.set(0, 1);
        changed(x, "01", Due.NONE, Due.NONE, Due.NONE);
    }

    /** Of as few places the first sheet's least bits, though a later sheet has more for it. */
    private static void leastPlaces() {
        LeadPress y = new LeadPress();
        Due.word(y, 1, "b");
        Due.sheet(y, 2, "00");
        Due.sheet(y, 0, "00");
        y.stand(0, 1);
        Due.stock(y, 2);
        y.set(0, 2);
        changed(y, "20", 1, 0, 1);
        Due.stock(y, 1);
        changed(y, "20", 2, 1, 1);
        y.set(0, 3);
        changed(y, "20", 2, 2, 1);
        LeadPress x = new LeadPress();
        Due.word(x, 1, "b");
        Due.word(x, 2, "c");
        Due.sheet(x, 3, "0102");
        Due.sheet(x, 4, "0000");
        x.stand(0, 1);
        Due.stock(x, 1, 9, 9);
        changed(x, "34", 4, 1, 7);
        Due.stock(x, 4, 9, 9);
        changed(x, "34", 1, 0, 1);
        x.stand(0, 2);
        x.stand(1, 2);
        Due.stock(x, 9, 0, 9);
        changed(x, "34", 1, 2, 0);
        Due.stock(x, 1, 9, 9);
        changed(x, "34", 4, 1, 7);
    }

    private static void changesRefused() {
        LeadPress x = new LeadPress();
        Due.due("empty pad", x.changes(-1), Due.NO);
        Due.due("no ahead of none", x.changes(9), Due.NO);
        Due.sheet(x, 0, "0");
        Due.pad(x, "00");
        Due.due("fault", x.changes(0), Due.NO);
        Due.pad(x, "0");
        Due.due("changes(1)", x.changes(1), Due.NONE);
        Due.due("changes(-2)", x.changes(-2), Due.NONE);
        Due.due("changes(MAX)", x.changes(Integer.MAX_VALUE), Due.NONE);
        Due.due("changes(MIN)", x.changes(Integer.MIN_VALUE), Due.NONE);
    }

    private static void queriesChangeNothing() {
        LeadPress x = small();
        Due.stock(x, 2, 2, 1);
        Due.pad(x, "201");
        x.stand(0, 1);
        String before = Due.state(x);
        x.judge(0);
        x.orders();
        x.first(0);
        x.most(0);
        x.changes(-1);
        x.loans(-1);
        x.melt(-1);
        x.presses();
        x.fits();
        x.ahead(0, 1);
        x.known(0, 63);
        x.knownOf(0, 63);
        Due.same("asking", before, Due.state(x));
    }
}
