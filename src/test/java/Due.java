/** Counts answers that are not the ones that are due, and ends a test. */
final class Due {
    static final int UNKNOWN = -1, OUTSIDE = -2, STATE = -3, FULL = -4, NO = -5, NONE = -6;

    private static int asked = 0;
    private static int wrong = 0;

    private Due() {
    }

    static void due(String call, long got, long want) {
        asked++;
        if (got != want) {
            wrong++;
            System.out.println(call + " answered " + got + ", due is " + want);
        }
    }

    /** Puts a text on the PAD in place of what stands there. */
    static void pad(LeadPress x, String text) {
        x.wipe();
        for (int i = 0; i < text.length(); i++) {
            due("say of " + text, x.say(text.charAt(i)), i + 1);
        }
    }

    static void word(LeadPress x, int word, String letters) {
        pad(x, letters);
        due("word(" + word + ") of " + letters, x.word(word), letters.length());
    }

    static void sheet(LeadPress x, int sheet, String words) {
        pad(x, words);
        due("sheet(" + sheet + ") of " + words, x.sheet(sheet), words.length());
    }

    /** THE CASE has so many of a, b, c, .. */
    static void stock(LeadPress x, int... amounts) {
        for (int sort = 0; sort < amounts.length; sort++) {
            x.lay(sort, amounts[sort]);
        }
    }

    /** All that the calls without effect tell of the state, so that two moments can be compared. */
    static String state(LeadPress x) {
        StringBuilder text = new StringBuilder();
        for (int what = 0; what < 66; what++) {
            text.append(x.told(what)).append(' ');
        }
        for (int sheet = 0; sheet < 6; sheet++) {
            for (int sort = -1; sort < 6; sort++) {
                text.append(x.needs(sheet, sort)).append(' ');
            }
        }
        for (int how = 0; how < 4; how++) {
            text.append(x.fault(how)).append(' ');
        }
        return text.toString();
    }

    static void same(String call, String before, String after) {
        due(call + " changes nothing", before.equals(after) ? 1 : 0, 1);
    }

    static void end() {
        System.out.println(asked + " answers looked at, " + wrong + " not as due");
        if (wrong != 0 || asked == 0) {
            System.exit(1);
        }
    }
}
