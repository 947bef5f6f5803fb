import java.lang.management.ManagementFactory;
import java.util.ArrayList;
import java.util.List;

/** Calls of all kinds with numbers of all kinds: none throws, a refused one changes nothing, a run stays in its room. */
public final class AnyCallTest {
    private static final int[] STRANGE = {Integer.MIN_VALUE, Integer.MIN_VALUE + 1, -1000000, -65, -33, -7, -2, -1,
        31, 32, 63, 64, 65, 99, 100, 127, 256, 65536, 1 << 30, Integer.MAX_VALUE - 1, Integer.MAX_VALUE};
    private static final int KINDS = Calls.NAMES.length;
    private static final String SIGNS = "012345012345012345678901234589:::abcdefabcdefabcdefg";

    private static long row = 7L;

    public static void main(String[] args) {
        for (int run = 0; run < 400; run++) {
            refusedChangesNothing();
        }
        for (int run = 0; run < 2000; run++) {
            neverThrows();
        }
        roomStaysSmall();
        Due.end();
    }

    private static int draw(int bound) {
        row = row * 6364136223846793005L + 1442695040888963407L;
        return (int) ((row >>> 33) % bound);
    }

    private static int number() {
        return draw(6) == 0 ? STRANGE[draw(STRANGE.length)] : draw(3) == 0 ? draw(70) - 2 : draw(8) - 1;
    }

    private static int call(LeadPress x, int kind, int a, int b) {
        return Calls.on(x, Calls.NAMES[kind], a, b);
    }

    /** The kind of a call and its two numbers; a sign is mostly one that can stand on the pad. */
    private static int[] drawCall(int oneIn) {
        int kind = draw(oneIn) == 0 ? 0 : draw(KINDS);
        int a = kind == 0 && draw(8) != 0 ? SIGNS.charAt(draw(SIGNS.length())) : number();
        return new int[] {kind, a, number()};
    }

    private static LeadPress after(List<int[]> calls) {
        LeadPress x = new LeadPress();
        for (int[] one : calls) {
            call(x, one[0], one[1], one[2]);
        }
        return x;
    }

    /** Calls that were refused, and those that only ask, can be left out. */
    private static void refusedChangesNothing() {
        LeadPress x = new LeadPress();
        List<int[]> all = new ArrayList<>();
        List<int[]> taken = new ArrayList<>();
        for (int i = 0; i < 150; i++) {
            int[] one = drawCall(3);
            int answer = call(x, one[0], one[1], one[2]);
            all.add(one);
            if (Calls.changes(Calls.NAMES[one[0]]) && (answer >= 0 || answer == Due.NONE)) {
                taken.add(one);
            }
            Due.due("call " + one[0] + " answers -6 or more", answer >= Due.NONE ? 1 : 0, 1);
        }
        Look.same("refused calls change nothing", () -> after(taken), () -> after(all));
    }

    private static void neverThrows() {
        LeadPress x = new LeadPress();
        for (int i = 0; i < 512; i++) {
            int[] one = drawCall(3);
            int answer = call(x, one[0], one[1], one[2]);
            Due.due("call " + one[0] + " answers -6 or more", answer >= Due.NONE ? 1 : 0, 1);
        }
    }

    /** Six full sheets of six words, each with a stand-in: the dearest calls. */
    private static LeadPress dearest() {
        LeadPress x = new LeadPress();
        String[] words = {"abcde", "bcdef", "cdefa", "defab", "efabc", "fabcd", "aabbc", "ccdde", "eeffa", "bbddf"};
        for (int word = 0; word < 10; word++) {
            Due.word(x, word, words[word]);
            x.stand(word, (word + 3) % 10);
        }
        for (int sheet = 0; sheet < 6; sheet++) {
            Due.sheet(x, sheet, "012345".substring(sheet) + "678901".substring(0, sheet));
            x.lay(sheet, 7);
        }
        Due.pad(x, "543210");
        return x;
    }

    /** A run of 512 calls has room for some 7.3 million numbers. */
    private static void roomStaysSmall() {
        com.sun.management.ThreadMXBean threads =
            (com.sun.management.ThreadMXBean) ManagementFactory.getThreadMXBean();
        long self = Thread.currentThread().getId();
        long before = threads.getThreadAllocatedBytes(self);
        LeadPress x = dearest();
        for (int i = 0; i < 330; i++) {
            x.changes(i % 7 - 1);
        }
        for (int kind = 0; kind < KINDS; kind++) {
            call(x, kind, 1, 0);
        }
        long made = threads.getThreadAllocatedBytes(self) - before;
        Due.due("a run makes few objects (" + made + " bytes)", made < 7300000L * 4 ? 1 : 0, 1);
    }
}
