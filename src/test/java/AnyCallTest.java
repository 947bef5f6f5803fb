import java.lang.management.ManagementFactory;

/** Calls of all kinds with numbers of all kinds: none throws, a refused one changes nothing, none makes an object. */
public final class AnyCallTest {
    private static final int[] STRANGE = {Integer.MIN_VALUE, Integer.MIN_VALUE + 1, -1000000, -65, -33, -7, -2, -1,
        31, 32, 63, 64, 65, 99, 100, 127, 256, 65536, 1 << 30, Integer.MAX_VALUE - 1, Integer.MAX_VALUE};
    private static final int KINDS = 26;
    private static final String SIGNS = "012345012345012345678901234589:::abcdefabcdefabcdefg";

    private static long row = 7L;

    public static void main(String[] args) {
        for (int run = 0; run < 400; run++) {
            refusedChangesNothing();
        }
        for (int run = 0; run < 2000; run++) {
            neverThrows();
        }
        roomStaysSmall();
        Due.end();
    }

    private static int draw(int bound) {
        row = row * 6364136223846793005L + 1442695040888963407L;
        return (int) ((row >>> 33) % bound);
    }

    private static int number() {
        return draw(6) == 0 ? STRANGE[draw(STRANGE.length)] : draw(3) == 0 ? draw(70) - 2 : draw(8) - 1;
    }

    private static int call(LeadPress x, int kind, int a, int b) {
        switch (kind) {
            case 0: return x.say(draw(8) == 0 ? a : SIGNS.charAt(draw(SIGNS.length())));
            case 1: return x.wipe();
            case 2: return x.fault(a);
            case 3: return x.word(a);
            case 4: return x.sheet(a);
            case 5: return x.take(a);
            case 6: return x.stand(a, b);
            case 7: return x.lay(a, b);
            case 8: return x.set(a, b);
            case 9: return x.needs(a, b);
            case 10: return x.judge(a);
            case 11: return x.orders();
            case 12: return x.first(a);
            case 13: return x.most(a);
            case 14: return x.changes(a);
            case 15: return x.loans(a);
            case 16: return x.presses();
            case 17: return x.melt(a);
            case 18: return x.seen(a, b);
            case 19: return x.fits();
            case 20: return x.ahead(a, b);
            case 21: return x.known(a, b);
            case 22: return x.knownOf(a, b);
            case 23: return x.image(a);
            case 24: return x.restore(a);
            default: return x.told(a);
        }
    }

    private static void refusedChangesNothing() {
        LeadPress x = new LeadPress();
        for (int i = 0; i < 60; i++) {
            String before = Due.state(x);
            int kind = draw(KINDS);
            int answer = call(x, kind, number(), number());
            boolean asks = kind == 2 || kind >= 9 && kind != 18 && kind != 24;
            if (asks || answer < 0 && answer != Due.NONE) {
                Due.same("call " + kind, before, Due.state(x));
            }
            Due.due("call " + kind + " answers -6 or more", answer >= Due.NONE ? 1 : 0, 1);
        }
    }

    private static void neverThrows() {
        LeadPress x = new LeadPress();
        for (int i = 0; i < 512; i++) {
            int kind = draw(3) == 0 ? 0 : draw(KINDS);
            int answer = call(x, kind, number(), number());
            Due.due("call " + kind + " answers -6 or more", answer >= Due.NONE ? 1 : 0, 1);
        }
    }

    /** Six full sheets of six words, each with a stand-in: the dearest calls. */
    private static LeadPress dearest() {
        LeadPress x = new LeadPress();
        String[] words = {"abcde", "bcdef", "cdefa", "defab", "efabc", "fabcd", "aabbc", "ccdde", "eeffa", "bbddf"};
        for (int word = 0; word < 10; word++) {
            Due.word(x, word, words[word]);
            x.stand(word, (word + 3) % 10);
        }
        for (int sheet = 0; sheet < 6; sheet++) {
            Due.sheet(x, sheet, "012345".substring(sheet) + "678901".substring(0, sheet));
            x.lay(sheet, 7);
        }
        Due.pad(x, "543210");
        return x;
    }

    private static void roomStaysSmall() {
        LeadPress x = dearest();
        com.sun.management.ThreadMXBean threads =
            (com.sun.management.ThreadMXBean) ManagementFactory.getThreadMXBean();
        long self = Thread.currentThread().getId();
        long before = threads.getThreadAllocatedBytes(self);
        for (int i = 0; i < 480; i++) {
            x.changes(i % 7 - 1);
        }
        for (int kind = 0; kind < KINDS; kind++) {
            call(x, kind, 1, 0);
        }
        long made = threads.getThreadAllocatedBytes(self) - before;
        Due.due("a run makes few objects (" + made + " bytes)", made < 100000 ? 1 : 0, 1);
    }
}
