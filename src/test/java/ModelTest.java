import java.util.ArrayList;
import java.util.List;

/**
 * Runs of drawn calls, each answer compared with ModelPress: any call in any state that calls lead to. Texts
 * are mostly said and used at once, so that words, sheets and orders come about. Numbers of runs and the
 * first one may be told as arguments.
 */
public final class ModelTest {
    private static final int RUNS = 250, CALLS = 500;
    private static final int[] STRANGE = {Integer.MIN_VALUE, Integer.MAX_VALUE, -65536, -256, -64, -7, -2, -1, 6, 7, 10,
        14, 15, 16, 31, 32, 33, 63, 64, 99, 100, 126, 127, 256, 65536};

    private static final String SIGNS = "012345:ab9:cdef6g/`!~";

    private static long row = 0;

    private final LeadPress x = new LeadPress();
    private final ModelPress model = new ModelPress();
    private final List<String> said = new ArrayList<>();
    private final int kinds = 1 + draw(6);
    private final int greatest = 1 + draw(14);
    private boolean good = true;

    public static void main(String[] args) {
        boolean told = args.length == 2;
        int first = told ? Integer.parseInt(args[1]) : 0;
        int runs = told ? Integer.parseInt(args[0]) : RUNS;
        for (int run = first; run < first + runs; run++) {
            row = run * 7919L;
            draw(2);
            new ModelTest().run(run);
        }
        Due.end();
    }

    /** 0 to bound - 1. */
    private static int draw(int bound) {
        row = row * 6364136223846793005L + 1442695040888963407L;
        return (int) ((row >>> 33) % bound);
    }

    private void run(int run) {
        while (said.size() < CALLS && good) {
            step();
        }
        if (!good) {
            System.out.println("run " + run + ": " + said);
        }
    }

    private void call(String call, int a, int b) {
        if (said.size() >= CALLS || !good) {
            return;
        }
        String text = call + "(" + (Calls.numbers(call) > 0 ? a : "") + (Calls.numbers(call) > 1 ? ", " + b : "") + ")";
        said.add(text);
        int want = model.call(call, a, b);
        int got = Calls.on(x, call, a, b);
        Due.due(text, got, want);
        good = got == want;
    }

    private void step() {
        switch (draw(13)) {
            case 0: case 1: any(); break;
            case 2: case 3: useOf(text(5, 'a', kinds), "word", draw(10)); break;
            case 4: case 5: useOf(text(6, '0', 10), "sheet", draw(6)); break;
            case 6: case 7: order(); break;
            case 8: rows(); break;
            case 9: settings(); break;
            case 10: seen(); break;
            case 11: strangeText(); break;
            default: ask(); break;
        }
    }

    private static String text(int most, char least, int kinds) {
        StringBuilder text = new StringBuilder();
        int length = 1 + draw(most);
        for (int i = 0; i < length; i++) {
            text.append((char) (least + draw(kinds)));
        }
        return text.toString();
    }

    private void say(String text) {
        call("wipe", 0, 0);
        for (char sign : text.toCharArray()) {
            call("say", sign, 0);
        }
    }

    private void useOf(String text, String call, int number) {
        say(text);
        call(call, number, 0);
    }

    private String shuffled() {
        StringBuilder order = new StringBuilder();
        String rest = model.sheets();
        while (!rest.isEmpty() && draw(12) != 0) {
            int at = draw(rest.length());
            order.append(rest.charAt(at));
            rest = rest.substring(0, at) + rest.substring(at + 1);
        }
        return order.toString();
    }

    private void order() {
        say(shuffled());
        for (int what = 0; what < 3; what++) {
            call("judge", what, 0);
        }
        for (int i = -1; i < 6; i++) {
            call("changes", i, 0);
            call(draw(2) == 0 ? "loans" : "melt", i, 0);
        }
    }

    /** As long as the pad and longer, mostly with a fault. */
    private void strangeText() {
        int length = draw(17);
        int kinds = 1 + draw(SIGNS.length());
        call("wipe", 0, 0);
        for (int i = 0; i < length; i++) {
            call("say", SIGNS.charAt(draw(kinds)), 0);
        }
        for (int how = 0; how < 4; how++) {
            call("fault", how, 0);
        }
        call("presses", 0, 0);
        call(draw(2) == 0 ? "word" : "sheet", draw(6), 0);
    }

    private void rows() {
        String all = shuffled();
        int colon = draw(all.length() + 1);
        say(all.substring(0, colon) + ":" + all.substring(colon));
        call("presses", 0, 0);
        call("fault", 3, 0);
    }

    private void settings() {
        call("lay", draw(6), draw(4) == 0 ? draw(100) : draw(greatest));
        call("lay", draw(kinds), draw(greatest));
        call("stand", draw(10), draw(10));
        call("set", 0, draw(4));
        call("set", 1, draw(9));
        call("set", 10 + draw(6), draw(5));
        call("image", draw(2), 0);
        call(draw(4) == 0 ? "restore" : "fits", draw(2), 0);
    }

    /** By an order of these SHEETS, mostly, so that some fit. */
    private void seen() {
        int[] seen = model.seenBy(shuffled());
        for (int i = 0; i < 3; i++) {
            int sheet = draw(6);
            call("seen", sheet, draw(5) == 0 ? draw(4) - 1 : seen[sheet]);
        }
        call("fits", 0, 0);
        call("ahead", draw(6), draw(6));
        call("ahead", draw(6), draw(6));
    }

    private void ask() {
        call("orders", 0, 0);
        call("first", draw(7) - 1, 0);
        call("first", draw(6), 0);
        call("most", draw(2), 0);
        call("needs", draw(6), draw(7) - 1);
        call("known", draw(10), draw(64));
        call("knownOf", draw(6), draw(64));
        call("told", draw(66), 0);
    }

    private void any() {
        String call = Calls.NAMES[draw(Calls.NAMES.length)];
        call(call, number(), number());
    }

    private static int number() {
        return draw(3) == 0 ? STRANGE[draw(STRANGE.length)] : draw(3) == 0 ? draw(70) - 2 : draw(8) - 1;
    }
}
