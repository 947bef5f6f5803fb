/** Promises 17 to 19. */
public final class LoansPressesLeadTest {
    public static void main(String[] args) {
        loans();
        loansThatStay();
        loansOfBroken();
        loansRefused();
        presses();
        pressesTogether();
        pressesRefused();
        melt();
        meltLater();
        meltRefused();
        Due.end();
    }

    private static void cost(LeadPress x, String order, int sort, int want) {
        Due.pad(x, order);
        Due.due("loans(" + sort + ") in " + order, x.loans(sort), want);
        Due.due("the pad stays", x.told(0), order.length());
    }

    private static void loans() {
        LeadPress x = new LeadPress();
        Due.word(x, 1, "bbb");
        Due.sheet(x, 0, "1");
        Due.sheet(x, 1, "0");
        Due.sheet(x, 2, "1");
        cost(x, "012", -1, 0);
        Due.stock(x, 9, 2);
        cost(x, "0", 1, 7);
        cost(x, "0", 0, 0);
        cost(x, "0", -1, 7);
        Due.stock(x, 0, 2);
        cost(x, "0", -1, 7);
        cost(x, "01", 0, 7);
        cost(x, "01", -1, 14);
        Due.stock(x, 0, 0);
        cost(x, "0", 1, 21);
        x.set(1, 0);
        cost(x, "0", 1, 6);
        x.set(1, 99);
        x.set(11, 99);
        cost(x, "0", 1, 3 * 198);
        x.set(11, 0);
        cost(x, "0", 1, 3 * 99);
    }

    /** It stays for sheets between, if that costs less than to come anew. */
    private static void loansThatStay() {
        LeadPress x = new LeadPress();
        Due.word(x, 1, "b");
        for (int sheet = 0; sheet < 6; sheet++) {
            Due.sheet(x, sheet, sheet == 0 || sheet == 5 ? "1" : "0");
        }
        Due.stock(x, 99, 0);
        cost(x, "05", 1, 5 + 2 + 2);
        cost(x, "015", 1, 5 + 2 + 2 + 2);
        cost(x, "0125", 1, 5 + 4 * 2);
        cost(x, "01235", 1, 2 * 7);
        cost(x, "012345", 1, 2 * 7);
        cost(x, "1052", 1, 9);
        x.set(1, 8);
        cost(x, "012345", 1, 8 + 6 * 2);
        x.set(11, 3);
        cost(x, "012345", 1, 2 * (8 + 3));
        x.set(11, 0);
        cost(x, "012345", 1, 8);
        x.set(1, 0);
        cost(x, "012345", 1, 0);
    }

    /** What a sheet breaks goes from the case; of none, none goes. */
    private static void loansOfBroken() {
        LeadPress x = new LeadPress();
        Due.sheet(x, 0, "00");
        Due.sheet(x, 1, "00");
        Due.sheet(x, 2, "00");
        Due.stock(x, 1);
        cost(x, "0", 0, 7);
        cost(x, "01", 0, (5 + 2 * 2) + 7);
        cost(x, "012", 0, (5 + 3 * 2) + (5 + 2 * 2));
        Due.stock(x, 0);
        cost(x, "012", 0, 2 * (5 + 3 * 2));
        Due.due("nothing else is changed", x.told(20), 0);
    }

    private static void loansRefused() {
        LeadPress x = new LeadPress();
        Due.due("empty pad", x.loans(-1), Due.NO);
        Due.due("loans(6)", x.loans(6), Due.UNKNOWN);
        Due.due("loans(-2)", x.loans(-2), Due.UNKNOWN);
        Due.sheet(x, 0, "0");
        Due.pad(x, "0:1");
        Due.due("rows are no order", x.loans(0), Due.NO);
        Due.pad(x, "0");
        Due.due("loans(5)", x.loans(5), 0);
    }

    private static void steps(LeadPress x, String rows, int want) {
        Due.pad(x, rows);
        Due.due("presses() by " + rows, x.presses(), want);
        Due.due("the pad stays", x.told(0), rows.length());
    }

    private static void presses() {
        LeadPress x = new LeadPress();
        for (int sheet = 0; sheet < 6; sheet++) {
            Due.sheet(x, sheet, "00");
        }
        Due.stock(x, 99);
        steps(x, "0:1", 1);
        steps(x, "012:345", 3);
        steps(x, "0:12345", 5);
        steps(x, "01234:5", 5);
        Due.stock(x, 4);
        steps(x, "0:1", 1);
        steps(x, "01:2", 2);
        steps(x, "01:23", Due.NONE);
        Due.stock(x, 3);
        steps(x, "0:1", 2);
        steps(x, "01:2", Due.NONE);
        Due.stock(x, 2);
        steps(x, "0:1", Due.NONE);
    }

    /** Both at once need their letters together, and both break; a row is not turned round. */
    private static void pressesTogether() {
        LeadPress x = new LeadPress();
        Due.word(x, 1, "aabb");
        Due.word(x, 2, "b");
        Due.sheet(x, 0, "1");
        Due.sheet(x, 1, "2");
        Due.sheet(x, 2, "2");
        Due.sheet(x, 3, "0");
        Due.stock(x, 2, 2);
        steps(x, "0:1", 2);
        steps(x, "0:12", 3);
        steps(x, "0:3", 2);
        steps(x, "3:0", 2);
        steps(x, "30:1", Due.NONE);
        steps(x, "03:1", 2);
        Due.stock(x, 2, 3);
        steps(x, "0:1", 1);
        steps(x, "0:12", 2);
        Due.stock(x, 2, 4);
        steps(x, "0:12", 2);
        steps(x, "03:12", 2);
    }

    private static void pressesRefused() {
        LeadPress x = new LeadPress();
        Due.due("empty pad", x.presses(), Due.NO);
        Due.sheet(x, 0, "0");
        Due.sheet(x, 1, "0");
        String[] faulty = {"0", "0:", "01", ":0", "0:0", "0:2", "01:", "0:1:"};
        for (String text : faulty) {
            Due.pad(x, text);
            Due.due("presses() by " + text, x.presses(), Due.NO);
        }
    }

    private static void melted(LeadPress x, String order, int... want) {
        Due.pad(x, order);
        for (int sort = -1; sort < want.length - 1; sort++) {
            Due.due("melt(" + sort + ") for " + order, x.melt(sort), want[sort + 1]);
        }
        Due.due("the pad stays", x.told(0), order.length());
    }

    private static void melt() {
        LeadPress x = new LeadPress();
        Due.word(x, 1, "bbc");
        Due.sheet(x, 0, "1");
        Due.sheet(x, 1, "1");
        Due.sheet(x, 2, "0");
        Due.stock(x, 1, 1, 1, 1, 0, 0);
        melted(x, "0", 0, 1, 2, 1, 0, 0, 0);
        melted(x, "01", 0, 0, 3, 1, 0, 0, 0);
        melted(x, "012", Due.NONE, Due.NONE, Due.NONE, Due.NONE, Due.NONE, Due.NONE, Due.NONE);
        Due.stock(x, 2, 1, 1, 1, 0, 0);
        melted(x, "012", 0, 1, 3, 1, 0, 0, 0);
        Due.stock(x, 99, 99, 99, 99, 99, 99);
        melted(x, "012", 0, 594 - 4, 3, 1, 0, 0, 0);
        Due.due("the case stays", x.told(20), 99);
    }

    /** What was broken ahead of the melting is won back; what is broken behind it is gone. */
    private static void meltLater() {
        LeadPress x = new LeadPress();
        Due.word(x, 1, "bbb");
        Due.sheet(x, 0, "0");
        Due.sheet(x, 1, "1");
        Due.sheet(x, 2, "00");
        Due.stock(x, 1, 2, 0, 0, 0, 0);
        melted(x, "01", 1, 0, 3, 0);
        melted(x, "10", Due.NONE, Due.NONE, Due.NONE);
        Due.stock(x, 2, 1, 0, 0, 0, 0);
        melted(x, "02", 0, 3, 0, 0);
        Due.stock(x, 1, 1, 0, 0, 0, 0);
        melted(x, "02", 1, 2, 0, 0);
        Due.stock(x, 1, 0, 1, 0, 0, 0);
        melted(x, "021", Due.NONE, Due.NONE);
        Due.stock(x, 0, 0, 1, 0, 0, 0);
        melted(x, "0", 0, 1, 0, 0);
        Due.stock(x, 0, 0, 0, 0, 0, 0);
        melted(x, "0", Due.NONE, Due.NONE);
    }

    private static void meltRefused() {
        LeadPress x = new LeadPress();
        Due.due("empty pad", x.melt(-1), Due.NO);
        Due.due("melt(6)", x.melt(6), Due.UNKNOWN);
        Due.due("melt(-2)", x.melt(-2), Due.UNKNOWN);
        Due.sheet(x, 0, "0");
        Due.pad(x, "01");
        Due.due("fault", x.melt(0), Due.NO);
        Due.due("unknown ahead of no", x.melt(7), Due.UNKNOWN);
    }
}
