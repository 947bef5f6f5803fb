import java.util.ArrayList;
import java.util.List;

/**
 * Each call with numbers of all kinds (the last ones inside, the first ones outside, the least and the greatest
 * int) in states of all kinds: it is refused for the first reason that fits, and then changes nothing.
 */
public final class RefusedTest {
    private static final int[] FIRST = {Integer.MIN_VALUE, Integer.MIN_VALUE + 1, -65536, -256, -255, -64, -33, -32,
        -31, -16, -10, -9, -7, -6, -5, -4, -3, -2, -1, 0, 1, 2, 3, 4, 5, 6, 7, 8, 9, 10, 11, 12, 13, 14, 15, 16, 17,
        19, 20, 25, 26, 29, 30, 31, 32, 33, 34, 39, 40, 48, 49, 50, 55, 56, 57, 58, 59, 60, 63, 64, 65, 66, 97, 99,
        100, 102, 103, 125, 126, 127, 128, 255, 256, 257, 65536, 65537, 1 << 30, Integer.MAX_VALUE - 1,
        Integer.MAX_VALUE};
    private static final int[] SECOND = {Integer.MIN_VALUE, -65536, -256, -7, -3, -2, -1, 0, 1, 2, 3, 4, 5, 6, 9, 10,
        29, 30, 31, 32, 62, 63, 64, 98, 99, 100, 101, 256, 65536, Integer.MAX_VALUE};
    private static final int[] NOTHING = {0};
    private static final int AT_ONCE = 60;

    public static void main(String[] args) {
        for (State state : states()) {
            String[] before = Look.all(state::make);
            for (String call : Calls.NAMES) {
                tryCall(state, call, before);
            }
        }
        Due.end();
    }

    /** How an object comes to stand, and what of it decides on refusals. */
    private static final class State implements Calls.Standing {
        private final String name;
        private final boolean laid;
        private final String pad;
        private final String images;
        private final String sheets;
        private final boolean fits;

        State(String name, boolean laid, String pad, String images, String sheets, boolean fits) {
            this.name = name;
            this.laid = laid;
            this.pad = pad;
            this.images = images;
            this.sheets = sheets;
            this.fits = fits;
        }

        LeadPress make() {
            LeadPress x = new LeadPress();
            if (laid) {
                layAll(x);
            }
            for (char digit : sheets.toCharArray()) {
                x.say(digit);
                x.say("022395".charAt(digit - '0'));
                x.say('1');
                x.sheet(digit - '0');
            }
            for (char image : images.toCharArray()) {
                x.image(image - '0');
                x.lay(3, 4 + image - '0');
                x.stand(6, image - '0');
            }
            if (!fits) {
                x.seen(sheets.charAt(0) - '0', 30);
            }
            for (char sign : pad.toCharArray()) {
                x.say(sign);
            }
            return x;
        }

        private static void layAll(LeadPress x) {
            String[] words = {"ab", "b", "cc", "fedcb", "ba", "a", "aa", "abc", "f"};
            for (int word = 0; word < words.length; word++) {
                Due.word(x, word, words[word]);
            }
            x.stand(0, 4);
            x.stand(3, 8);
            x.stand(8, 0);
            x.lay(0, 5);
            x.lay(1, 6);
            x.lay(4, 1);
            x.set(0, 1);
            x.set(1, 7);
            x.set(12, 0);
            x.seen(1, -1);
        }

        @Override
        public String pad() {
            return pad;
        }

        @Override
        public String sheets() {
            return sheets;
        }

        @Override
        public String images() {
            return images;
        }

        @Override
        public boolean fits() {
            return fits;
        }
    }

    private static State[] states() {
        return new State[] {
            new State("new", false, "", "", "", true),
            new State("no sheets, a digit", true, "0", "", "", true),
            new State("a word", true, "fab", "", "0235", true),
            new State("a sheet", true, "0192", "0", "0235", true),
            new State("an order", true, "302", "1", "0235", true),
            new State("rows", true, "30:25", "01", "0235", true),
            new State("a full pad", true, "30:25302513025", "01", "0235", true),
            new State("a fault behind an order", true, "30x", "10", "0235", true),
            new State("none fits", true, "54", "0", "45", false),
            new State("all sheets", true, "012345", "01", "012345", true),
            new State("all sheets in rows", false, "5432:10", "", "012345", true),
            new State("thirteen signs", false, "abcdefabcdefa", "1", "0", true)};
    }

    private static void tryCall(State state, String call, String[] before) {
        int[] firsts = Calls.numbers(call) == 0 ? NOTHING : FIRST;
        int[] seconds = Calls.numbers(call) == 2 ? SECOND : NOTHING;
        List<int[]> refused = new ArrayList<>();
        List<int[]> asked = new ArrayList<>();
        for (int a : firsts) {
            for (int b : seconds) {
                if (Calls.refusal(state, call, a, b) != 0) {
                    refused.add(new int[] {a, b});
                } else if (Calls.changes(call)) {
                    taken(state, call, a, b, state.make());
                } else {
                    asked.add(new int[] {a, b});
                }
            }
        }
        inParts(state, call, refused, before);
        inParts(state, call, asked, before);
    }

    private static void taken(State state, String call, int a, int b, LeadPress x) {
        int answer = Calls.on(x, call, a, b);
        boolean taken = answer >= 0 || answer == Due.NONE;
        Due.due(state.name + ": " + call + "(" + a + ", " + b + ") is taken: " + answer, taken ? 1 : 0, 1);
    }

    private static void inParts(State state, String call, List<int[]> arguments, String[] before) {
        for (int from = 0; from < arguments.size(); from += AT_ONCE) {
            List<int[]> part = arguments.subList(from, Math.min(arguments.size(), from + AT_ONCE));
            checkAnswers(state, call, part);
            for (int look = 0; look < Look.LOOKS; look++) {
                LeadPress x = state.make();
                for (int[] one : part) {
                    Calls.on(x, call, one[0], one[1]);
                }
                boolean alike = Look.at(x, look).equals(before[look]);
                Due.due(state.name + ": " + call + " changes nothing, look " + look, alike ? 1 : 0, 1);
            }
        }
    }

    private static void checkAnswers(State state, String call, List<int[]> part) {
        LeadPress x = state.make();
        for (int[] one : part) {
            int want = Calls.refusal(state, call, one[0], one[1]);
            if (want == 0) {
                taken(state, call, one[0], one[1], x);
            } else {
                String text = state.name + ": " + call + "(" + one[0] + ", " + one[1] + ")";
                Due.due(text, Calls.on(x, call, one[0], one[1]), want);
            }
        }
    }
}
