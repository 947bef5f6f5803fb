import java.util.List;

/** The whole face once more: a text as the PAD, PlainPress for what is computed, copies of it as IMAGES. */
final class ModelPress implements Calls.Standing {
    private PlainPress now = new PlainPress();
    private final PlainPress[] kept = new PlainPress[2];
    private String pad = "";

    @Override
    public String pad() {
        return pad;
    }

    @Override
    public String sheets() {
        return now.there();
    }

    @Override
    public String images() {
        return (kept[0] == null ? "" : "0") + (kept[1] == null ? "" : "1");
    }

    @Override
    public boolean fits() {
        return !now.fittingOrders().isEmpty();
    }

    /** How many letters are upside down in each SHEET, when those of an order are printed. */
    int[] seenBy(String order) {
        return now.seenBy(order);
    }

    int call(String call, int a, int b) {
        int refusal = Calls.refusal(this, call, a, b);
        return refusal != 0 ? refusal : Calls.changes(call) ? changed(call, a, b) : asked(call, a, b);
    }

    private int changed(String call, int a, int b) {
        switch (call) {
            case "say":
                pad += (char) a;
                return pad.length();
            case "wipe":
                return emptied().length();
            case "word":
                now.words[a] = emptied();
                return now.words[a].length();
            case "sheet":
                now.sheets[a] = emptied();
                return now.sheets[a].length();
            case "take":
                int size = now.sheets[a].length();
                now.sheets[a] = "";
                return size;
            case "stand":
                return swapped(now.standIns, a, b < 0 ? Due.NONE : b);
            case "lay":
                return swapped(now.stock, a, b);
            case "set":
                return set(a, b);
            case "seen":
                return swapped(now.marks, a, b < 0 ? Due.NONE : b);
            case "image":
                kept[a] = now.copy();
                return 1;
            default:
                now = kept[a].copy();
                return 1;
        }
    }

    private String emptied() {
        String were = pad;
        pad = "";
        return were;
    }

    private static int swapped(int[] row, int i, int v) {
        int was = row[i];
        row[i] = v;
        return was;
    }

    private int set(int which, int v) {
        int was = told(which < 10 ? which + 2 : which);
        if (which == 0) {
            now.law = v;
        } else if (which == 1) {
            now.fee = v;
        } else {
            now.rents[which - 10] = v;
        }
        return was;
    }

    private int asked(String call, int a, int b) {
        switch (call) {
            case "fault": return fault(a);
            case "needs": return now.needs(a, b);
            case "judge": return now.judge(pad, a);
            case "orders": return now.goodOrders(now.there()).size();
            case "first": return first(a);
            case "most": return now.most(a);
            case "changes": return changes(a);
            case "loans": return a < 0 ? loans() : now.loans(pad, a);
            case "presses": return now.presses(pad);
            case "melt": return melt(a);
            case "fits": return now.fittingOrders().size();
            case "ahead": return now.ahead(a, b);
            case "known": return now.known(a, b);
            case "knownOf": return now.knownOf(a, b);
            default: return told(a);
        }
    }

    /** By the longest text ahead that could still become one of this form. */
    private int fault(int how) {
        String part = new String[] {"[a-f]{0,5}", "[0-9]{0,6}", "[0-5]*", "([0-5]+:)?[0-5]*"}[how];
        String whole = new String[] {"[a-f]+", "[0-9]+", "[0-5]+", "[0-5]+:[0-5]+"}[how];
        int good = 0;
        while (good < pad.length() && canStand(pad.substring(0, good + 1), part, how)) {
            good++;
        }
        return good == pad.length() && pad.matches(whole) ? Due.NONE : good;
    }

    private boolean canStand(String text, String part, int how) {
        String digits = text.replace(":", "");
        boolean unlike = digits.chars().distinct().count() == digits.length();
        boolean there = digits.chars().allMatch(digit -> now.there().indexOf(digit) >= 0);
        return text.matches(part) && (how < 2 || unlike && there);
    }

    private int first(int i) {
        List<String> good = now.goodOrders(now.there());
        return good.isEmpty() || i < 0 || i >= now.there().length() ? Due.NONE : good.get(0).charAt(i) - '0';
    }

    private int changes(int i) {
        int[] way = now.changesByCase(pad);
        return way == null || i < -1 || i >= pad.length() ? Due.NONE : way[i + 1];
    }

    private int loans() {
        int sum = 0;
        for (int sort = 0; sort < 6; sort++) {
            sum += now.loans(pad, sort);
        }
        return sum;
    }

    private int melt(int sort) {
        int[] melted = now.melt(pad);
        return melted == null ? Due.NONE : melted[sort + 1];
    }

    private int told(int what) {
        int i = what % 10;
        switch (what / 10) {
            case 0: return new int[] {pad.length(), bits(), now.law, now.fee}[i];
            case 1: return now.rents[i];
            case 2: return now.stock[i];
            case 3: return now.words[i].length();
            case 4: return now.standIns[i];
            case 5: return now.sheets[i].length();
            default: return now.marks[i];
        }
    }

    private int bits() {
        return now.there().chars().map(digit -> 1 << digit - '0').sum();
    }
}
