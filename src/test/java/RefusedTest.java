import java.util.ArrayList;
import java.util.List;

/**
 * Each call with numbers of all kinds (the last ones inside, the first ones outside, the least and the greatest
 * int) in states of all kinds: it is refused for the first reason that fits, and then changes nothing.
 */
public final class RefusedTest {
    private static final int UNKNOWN = Due.UNKNOWN, OUTSIDE = Due.OUTSIDE, STATE = Due.STATE, FULL = Due.FULL,
        NO = Due.NO;
    private static final String[] CALLS = {"say", "wipe", "fault", "word", "sheet", "take", "stand", "lay", "set",
        "needs", "judge", "orders", "first", "most", "changes", "loans", "presses", "melt", "seen", "fits", "ahead",
        "known", "knownOf", "image", "restore", "told"};
    private static final int[] FIRST = {Integer.MIN_VALUE, Integer.MIN_VALUE + 1, -65536, -256, -255, -64, -33, -32,
        -31, -16, -10, -9, -7, -6, -5, -4, -3, -2, -1, 0, 1, 2, 3, 4, 5, 6, 7, 8, 9, 10, 11, 12, 13, 14, 15, 16, 17,
        19, 20, 25, 26, 29, 30, 31, 32, 33, 34, 39, 40, 48, 49, 50, 55, 56, 57, 58, 59, 60, 63, 64, 65, 66, 97, 99,
        100, 102, 103, 125, 126, 127, 128, 255, 256, 257, 65536, 65537, 1 << 30, Integer.MAX_VALUE - 1,
        Integer.MAX_VALUE};
    private static final int[] SECOND = {Integer.MIN_VALUE, -65536, -256, -7, -3, -2, -1, 0, 1, 2, 3, 4, 5, 6, 9, 10,
        29, 30, 31, 32, 62, 63, 64, 98, 99, 100, 101, 256, 65536, Integer.MAX_VALUE};
    private static final int[] NOTHING = {0};
    private static final String TWO = "stand lay set needs seen ahead known knownOf";
    private static final String NEITHER = "wipe orders presses fits";
    private static final String CHANGING = "say wipe word sheet take stand lay set seen image restore";
    private static final int AT_ONCE = 60;

    public static void main(String[] args) {
        for (State state : states()) {
            String[] before = Look.all(state::make);
            for (String call : CALLS) {
                tryCall(state, call, before);
            }
        }
        Due.end();
    }

    /** How an object comes to stand, and what of it decides on refusals. */
    private static final class State {
        final String name;
        final boolean laid;
        final String pad;
        final String images;
        final String sheets;
        final boolean fits;

        State(String name, boolean laid, String pad, String images, String sheets, boolean fits) {
            this.name = name;
            this.laid = laid;
            this.pad = pad;
            this.images = images;
            this.sheets = sheets;
            this.fits = fits;
        }

        LeadPress make() {
            LeadPress x = new LeadPress();
            if (laid) {
                layAll(x);
            }
            for (char digit : sheets.toCharArray()) {
                x.say(digit);
                x.say("022395".charAt(digit - '0'));
                x.say('1');
                x.sheet(digit - '0');
            }
            for (char image : images.toCharArray()) {
                x.image(image - '0');
                x.lay(3, 4 + image - '0');
                x.stand(6, image - '0');
            }
            if (!fits) {
                x.seen(sheets.charAt(0) - '0', 30);
            }
            for (char sign : pad.toCharArray()) {
                x.say(sign);
            }
            return x;
        }

        private static void layAll(LeadPress x) {
            String[] words = {"ab", "b", "cc", "fedcb", "ba", "a", "aa", "abc", "f"};
            for (int word = 0; word < words.length; word++) {
                Due.word(x, word, words[word]);
            }
            x.stand(0, 4);
            x.stand(3, 8);
            x.stand(8, 0);
            x.lay(0, 5);
            x.lay(1, 6);
            x.lay(4, 1);
            x.set(0, 1);
            x.set(1, 7);
            x.set(12, 0);
            x.seen(1, -1);
        }

        boolean faulty(String form) {
            for (int i = 0; i < pad.length(); i++) {
                boolean digit = pad.charAt(i) >= '0' && pad.charAt(i) <= '5';
                boolean there = sheets.indexOf(pad.charAt(i)) >= 0 && pad.indexOf(pad.charAt(i)) == i;
                if (form.contains("0-5") && digit && !there) {
                    return true;
                }
            }
            return !pad.matches(form);
        }
    }

    private static State[] states() {
        return new State[] {
            new State("new", false, "", "", "", true),
            new State("no sheets, a digit", true, "0", "", "", true),
            new State("a word", true, "fab", "", "0235", true),
            new State("a sheet", true, "0192", "0", "0235", true),
            new State("an order", true, "302", "1", "0235", true),
            new State("rows", true, "30:25", "01", "0235", true),
            new State("a full pad", true, "30:25302513025", "01", "0235", true),
            new State("a fault behind an order", true, "30x", "10", "0235", true),
            new State("none fits", true, "54", "0", "45", false),
            new State("all sheets", true, "012345", "01", "012345", true),
            new State("all sheets in rows", false, "5432:10", "", "012345", true),
            new State("thirteen signs", false, "abcdefabcdefa", "1", "0", true)};
    }

    private static void tryCall(State state, String call, String[] before) {
        int[] firsts = isOneOf(call, NEITHER) ? NOTHING : FIRST;
        int[] seconds = isOneOf(call, TWO) ? SECOND : NOTHING;
        List<int[]> refused = new ArrayList<>();
        List<int[]> asked = new ArrayList<>();
        for (int a : firsts) {
            for (int b : seconds) {
                if (refusal(state, call, a, b) != 0) {
                    refused.add(new int[] {a, b});
                } else if (isOneOf(call, CHANGING)) {
                    taken(state, call, a, b, state.make());
                } else {
                    asked.add(new int[] {a, b});
                }
            }
        }
        inParts(state, call, refused, before);
        inParts(state, call, asked, before);
    }

    private static boolean isOneOf(String call, String calls) {
        return (" " + calls + " ").contains(" " + call + " ");
    }

    private static void taken(State state, String call, int a, int b, LeadPress x) {
        int answer = on(x, call, a, b);
        boolean taken = answer >= 0 || answer == Due.NONE;
        Due.due(state.name + ": " + call + "(" + a + ", " + b + ") is taken: " + answer, taken ? 1 : 0, 1);
    }

    private static void inParts(State state, String call, List<int[]> arguments, String[] before) {
        for (int from = 0; from < arguments.size(); from += AT_ONCE) {
            List<int[]> part = arguments.subList(from, Math.min(arguments.size(), from + AT_ONCE));
            checkAnswers(state, call, part);
            for (int look = 0; look < Look.LOOKS; look++) {
                LeadPress x = state.make();
                for (int[] one : part) {
                    on(x, call, one[0], one[1]);
                }
                boolean alike = Look.at(x, look).equals(before[look]);
                Due.due(state.name + ": " + call + " changes nothing, look " + look, alike ? 1 : 0, 1);
            }
        }
    }

    private static void checkAnswers(State state, String call, List<int[]> part) {
        LeadPress x = state.make();
        for (int[] one : part) {
            int want = refusal(state, call, one[0], one[1]);
            if (want == 0) {
                taken(state, call, one[0], one[1], x);
            } else {
                String text = state.name + ": " + call + "(" + one[0] + ", " + one[1] + ")";
                Due.due(text, on(x, call, one[0], one[1]), want);
            }
        }
    }

    private static boolean in(int number, int least, int greatest) {
        return number >= least && number <= greatest;
    }

    /** The first reason to refuse a call; 0: there is none. */
    private static int refusal(State state, String call, int a, int b) {
        if (isUnknown(state, call, a, b)) {
            return UNKNOWN;
        }
        if (isOutside(call, a, b)) {
            return OUTSIDE;
        }
        if (call.equals("restore") && state.images.indexOf('0' + a) < 0) {
            return STATE;
        }
        if (isOneOf(call, "judge changes loans melt") && state.faulty("[0-5]{1,6}")
            || call.equals("presses") && state.faulty("[0-5]+:[0-5]+")
            || call.equals("word") && state.faulty("[a-f]{1,5}")
            || call.equals("sheet") && state.faulty("[0-9]{1,6}")
            || call.equals("ahead") && !state.fits) {
            return NO;
        }
        return call.equals("say") && state.pad.length() == 14 ? FULL : 0;
    }

    private static boolean isUnknown(State state, String call, int a, int b) {
        switch (call) {
            case "word": case "stand": case "known": return !in(a, 0, 9);
            case "sheet": case "take": case "seen": case "knownOf": case "lay": return !in(a, 0, 5);
            case "needs": return !in(a, 0, 5) || !in(b, -1, 5);
            case "loans": case "melt": return !in(a, -1, 5);
            case "ahead": return a == b || !isThere(state, a) || !isThere(state, b);
            default: return false;
        }
    }

    private static boolean isThere(State state, int sheet) {
        return in(sheet, 0, 5) && state.sheets.indexOf('0' + sheet) >= 0;
    }

    private static boolean isOutside(String call, int a, int b) {
        switch (call) {
            case "say": return !in(a, 33, 126);
            case "fault": return !in(a, 0, 3);
            case "stand": return !in(b, -1, 9) || a == b;
            case "lay": return !in(b, 0, 99);
            case "set": return !(a == 0 && in(b, 0, 3) || a == 1 && in(b, 0, 99) || in(a, 10, 15) && in(b, 0, 99));
            case "judge": return !in(a, 0, 2);
            case "most": case "image": case "restore": return !in(a, 0, 1);
            case "seen": return !in(b, -1, 30);
            case "known": case "knownOf": return !in(b, 0, 63);
            case "told": return !(in(a, 0, 3) || in(a, 10, 15) || in(a, 20, 25) || in(a, 30, 39) || in(a, 40, 49)
                || in(a, 50, 55) || in(a, 60, 65));
            default: return false;
        }
    }

    private static int on(LeadPress x, String call, int a, int b) {
        switch (call) {
            case "say": return x.say(a);
            case "wipe": return x.wipe();
            case "fault": return x.fault(a);
            case "word": return x.word(a);
            case "sheet": return x.sheet(a);
            case "take": return x.take(a);
            case "stand": return x.stand(a, b);
            case "lay": return x.lay(a, b);
            case "set": return x.set(a, b);
            case "needs": return x.needs(a, b);
            case "judge": return x.judge(a);
            case "orders": return x.orders();
            case "first": return x.first(a);
            case "most": return x.most(a);
            case "changes": return x.changes(a);
            case "loans": return x.loans(a);
            case "presses": return x.presses();
            case "melt": return x.melt(a);
            case "seen": return x.seen(a, b);
            case "fits": return x.fits();
            case "ahead": return x.ahead(a, b);
            case "known": return x.known(a, b);
            case "knownOf": return x.knownOf(a, b);
            case "image": return x.image(a);
            case "restore": return x.restore(a);
            default: return x.told(a);
        }
    }
}
