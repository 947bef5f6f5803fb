/** The calls of the face by their names, and the first reason for which each of them is refused. */
final class Calls {
    static final String[] NAMES = {"say", "wipe", "fault", "word", "sheet", "take", "stand", "lay", "set",
        "needs", "judge", "orders", "first", "most", "changes", "loans", "presses", "melt", "seen", "fits", "ahead",
        "known", "knownOf", "image", "restore", "told"};
    private static final String TWO = "stand lay set needs seen ahead known knownOf";
    private static final String NEITHER = "wipe orders presses fits";
    private static final String CHANGING = "say wipe word sheet take stand lay set seen image restore";

    /** What of a state decides on refusals: signs, SHEETS that are there, IMAGES that were kept, as texts. */
    interface Standing {
        String pad();

        String sheets();

        String images();

        boolean fits();
    }

    private Calls() {
    }

    static boolean isOneOf(String call, String calls) {
        return (" " + calls + " ").contains(" " + call + " ");
    }

    static int numbers(String call) {
        return isOneOf(call, NEITHER) ? 0 : isOneOf(call, TWO) ? 2 : 1;
    }

    static boolean changes(String call) {
        return isOneOf(call, CHANGING);
    }

    static int on(LeadPress x, String call, int a, int b) {
        switch (call) {
            case "say": return x.say(a);
            case "wipe": return x.wipe();
            case "fault": return x.fault(a);
            case "word": return x.word(a);
            case "sheet": return x.sheet(a);
            case "take": return x.take(a);
            case "stand": return x.stand(a, b);
            case "lay": return x.lay(a, b);
            case "set": return x.set(a, b);
            case "needs": return x.needs(a, b);
            case "judge": return x.judge(a);
            case "orders": return x.orders();
            case "first": return x.first(a);
            case "most": return x.most(a);
            case "changes": return x.changes(a);
            case "loans": return x.loans(a);
            case "presses": return x.presses();
            case "melt": return x.melt(a);
            case "seen": return x.seen(a, b);
            case "fits": return x.fits();
            case "ahead": return x.ahead(a, b);
            case "known": return x.known(a, b);
            case "knownOf": return x.knownOf(a, b);
            case "image": return x.image(a);
            case "restore": return x.restore(a);
            case "told": return x.told(a);
            default: throw new IllegalArgumentException(call);
        }
    }

    /** The first reason to refuse a call; 0: there is none. */
    static int refusal(Standing state, String call, int a, int b) {
        if (isUnknown(state, call, a, b)) {
            return Due.UNKNOWN;
        }
        if (isOutside(call, a, b)) {
            return Due.OUTSIDE;
        }
        if (call.equals("restore") && state.images().indexOf('0' + a) < 0) {
            return Due.STATE;
        }
        if (isOneOf(call, "judge changes loans melt") && isFaulty(state, "[0-5]{1,6}")
            || call.equals("presses") && isFaulty(state, "[0-5]+:[0-5]+")
            || call.equals("word") && isFaulty(state, "[a-f]{1,5}")
            || call.equals("sheet") && isFaulty(state, "[0-9]{1,6}")
            || call.equals("ahead") && !state.fits()) {
            return Due.NO;
        }
        return call.equals("say") && state.pad().length() == 14 ? Due.FULL : 0;
    }

    private static boolean isFaulty(Standing state, String form) {
        String pad = state.pad();
        for (int i = 0; i < pad.length(); i++) {
            boolean digit = in(pad.charAt(i), '0', '5');
            boolean there = state.sheets().indexOf(pad.charAt(i)) >= 0 && pad.indexOf(pad.charAt(i)) == i;
            if (form.contains("0-5") && digit && !there) {
                return true;
            }
        }
        return !pad.matches(form);
    }

    private static boolean in(int number, int least, int greatest) {
        return number >= least && number <= greatest;
    }

    private static boolean isUnknown(Standing state, String call, int a, int b) {
        switch (call) {
            case "word": case "stand": case "known": return !in(a, 0, 9);
            case "sheet": case "take": case "seen": case "knownOf": case "lay": return !in(a, 0, 5);
            case "needs": return !in(a, 0, 5) || !in(b, -1, 5);
            case "loans": case "melt": return !in(a, -1, 5);
            case "ahead": return a == b || !isThere(state, a) || !isThere(state, b);
            default: return false;
        }
    }

    private static boolean isThere(Standing state, int sheet) {
        return in(sheet, 0, 5) && state.sheets().indexOf('0' + sheet) >= 0;
    }

    private static boolean isOutside(String call, int a, int b) {
        switch (call) {
            case "say": return !in(a, 33, 126);
            case "fault": return !in(a, 0, 3);
            case "stand": return !in(b, -1, 9) || a == b;
            case "lay": return !in(b, 0, 99);
            case "set": return !(a == 0 && in(b, 0, 3) || a == 1 && in(b, 0, 99) || in(a, 10, 15) && in(b, 0, 99));
            case "judge": return !in(a, 0, 2);
            case "most": case "image": case "restore": return !in(a, 0, 1);
            case "seen": return !in(b, -1, 30);
            case "known": case "knownOf": return !in(b, 0, 63);
            case "told": return !(in(a, 0, 3) || in(a, 10, 15) || in(a, 20, 25) || in(a, 30, 39) || in(a, 40, 49)
                || in(a, 50, 55) || in(a, 60, 65));
            default: return false;
        }
    }
}
