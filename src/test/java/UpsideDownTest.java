/** Promises 20 to 27. */
public final class UpsideDownTest {
    public static void main(String[] args) {
        seen();
        fits();
        fitsAndBreaks();
        ahead();
        known();
        knownByOwnLetters();
        knownOf();
        imageAndRestore();
        imageRefused();
        told();
        Due.end();
    }

    private static void seen() {
        LeadPress x = new LeadPress();
        Due.due("seen(-1, 0)", x.seen(-1, 0), Due.UNKNOWN);
        Due.due("seen(6, 31)", x.seen(6, 31), Due.UNKNOWN);
        Due.due("seen(0, -2)", x.seen(0, -2), Due.OUTSIDE);
        Due.due("seen(0, 31)", x.seen(0, 31), Due.OUTSIDE);
        Due.due("seen(0, 30)", x.seen(0, 30), Due.NONE);
        Due.due("seen(0, 0)", x.seen(0, 0), 30);
        Due.due("seen(0, -1)", x.seen(0, -1), 0);
        Due.due("seen(0, -1)", x.seen(0, -1), Due.NONE);
        Due.due("seen(5, 7)", x.seen(5, 7), Due.NONE);
        Due.due("told(65)", x.told(65), 7);
    }

    /** Three sheets of two a. */
    private static LeadPress threeSheets() {
        LeadPress x = new LeadPress();
        Due.sheet(x, 0, "00");
        Due.sheet(x, 2, "00");
        Due.sheet(x, 4, "00");
        return x;
    }

    private static void fits() {
        LeadPress x = new LeadPress();
        Due.due("no sheets", x.fits(), 1);
        x.seen(0, 5);
        Due.due("told, but not there", x.fits(), 1);
        x = threeSheets();
        Due.due("nothing told", x.fits(), 6);
        x.seen(0, 0);
        Due.due("enough for all", x.fits(), 6);
        x.seen(0, 1);
        Due.due("none is too few", x.fits(), 0);
        Due.stock(x, 2);
        Due.due("second", x.fits(), 2);
        x.seen(2, 2);
        Due.due("second and last", x.fits(), 1);
        x.seen(4, 0);
        Due.due("all told", x.fits(), 1);
        x.seen(4, 1);
        Due.due("none", x.fits(), 0);
        x.take(4);
        Due.due("one that is not there is not asked for", x.fits(), 0);
        x.seen(2, 0);
        Due.due("two sheets", x.fits(), 1);
    }

    /** A sheet printed with too few breaks one all the same, but of none none. */
    private static void fitsAndBreaks() {
        LeadPress x = threeSheets();
        Due.stock(x, 0);
        x.seen(0, 2);
        x.seen(2, 2);
        x.seen(4, 2);
        Due.due("all without", x.fits(), 6);
        Due.stock(x, 1);
        Due.due("the first has one", x.fits(), 0);
        x.seen(4, 1);
        Due.due("4 is the first", x.fits(), 2);
        Due.word(x, 1, "abb");
        Due.sheet(x, 4, "1");
        Due.stock(x, 0, 0);
        x.seen(4, 3);
        Due.due("too few of several sorts", x.fits(), 6);
        Due.stock(x, 0, 1);
        x.seen(4, 2);
        Due.due("some of one sort", x.fits(), 6);
    }

    private static void ahead() {
        LeadPress x = threeSheets();
        Due.due("in some", x.ahead(0, 2), 2);
        Due.due("in some", x.ahead(4, 0), 2);
        Due.due("both are one", x.ahead(0, 0), Due.UNKNOWN);
        Due.due("not there", x.ahead(0, 1), Due.UNKNOWN);
        Due.due("not there", x.ahead(1, 0), Due.UNKNOWN);
        Due.due("ahead(-1, 0)", x.ahead(-1, 0), Due.UNKNOWN);
        Due.due("ahead(0, 6)", x.ahead(0, 6), Due.UNKNOWN);
        Due.due("ahead(32, 0)", x.ahead(32, 0), Due.UNKNOWN);
        Due.due("ahead(0, -32)", x.ahead(0, -32), Due.UNKNOWN);
        Due.stock(x, 2);
        x.seen(4, 2);
        Due.due("in all", x.ahead(0, 4), 1);
        Due.due("in none", x.ahead(4, 0), 0);
        Due.due("in some", x.ahead(0, 2), 2);
        x.seen(4, 1);
        Due.due("in the middle", x.ahead(0, 4), 2);
        Due.due("in the middle", x.ahead(4, 2), 2);
        x.seen(4, 3);
        Due.due("none fits", x.ahead(0, 4), Due.NO);
        Due.due("unknown ahead of no", x.ahead(0, 1), Due.UNKNOWN);
    }

    private static void known() {
        LeadPress x = new LeadPress();
        Due.due("known(-1, 0)", x.known(-1, 0), Due.UNKNOWN);
        Due.due("known(10, 64)", x.known(10, 64), Due.UNKNOWN);
        Due.due("known(0, -1)", x.known(0, -1), Due.OUTSIDE);
        Due.due("known(0, 64)", x.known(0, 64), Due.OUTSIDE);
        Due.due("all have the same letters", x.known(9, 63), 1);
        Due.word(x, 9, "b");
        Due.due("b", x.known(9, 0), 1);
        Due.due("b, a upside down", x.known(9, 1), 1);
        Due.due("b, b upside down", x.known(9, 2), 1);
        Due.due("b, a and b upside down", x.known(9, 3), 0);
        Due.due("a, a and b upside down", x.known(0, 3), 0);
        Due.due("a, a and c upside down", x.known(0, 5), 1);
        Due.due("all upside down", x.known(0, 63), 0);
        Due.word(x, 9, "bb");
        Due.due("another length", x.known(9, 63), 1);
        Due.due("another length", x.known(0, 63), 1);
    }

    private static void knownByOwnLetters() {
        LeadPress x = new LeadPress();
        Due.word(x, 0, "abc");
        Due.word(x, 1, "abd");
        Due.word(x, 2, "bac");
        Due.word(x, 3, "abc");
        Due.due("abc, c", x.known(0, 4), 1);
        Due.due("abc, c d", x.known(0, 12), 0);
        Due.due("abc, a b", x.known(0, 3), 0);
        Due.due("abd, a b", x.known(1, 3), 1);
        Due.due("abd, a b c", x.known(1, 7), 1);
        Due.due("abc, a", x.known(0, 1), 1);
        Due.due("abc, e f", x.known(0, 48), 1);
        Due.due("bac, all", x.known(2, 63), 0);
        Due.due("a word of one letter", x.known(5, 63), 1);
    }

    private static void knownOf() {
        LeadPress x = new LeadPress();
        Due.word(x, 1, "b");
        Due.word(x, 2, "cc");
        Due.sheet(x, 3, "012012");
        Due.due("knownOf(-1, 0)", x.knownOf(-1, 0), Due.UNKNOWN);
        Due.due("knownOf(6, 64)", x.knownOf(6, 64), Due.UNKNOWN);
        Due.due("knownOf(3, -1)", x.knownOf(3, -1), Due.OUTSIDE);
        Due.due("knownOf(3, 64)", x.knownOf(3, 64), Due.OUTSIDE);
        Due.due("not there, outside", x.knownOf(2, 64), Due.OUTSIDE);
        Due.due("knownOf(3, 0)", x.knownOf(3, 0), 6);
        Due.due("knownOf(3, 1)", x.knownOf(3, 1), 6);
        Due.due("knownOf(3, 3)", x.knownOf(3, 3), 2);
        Due.due("knownOf(3, 63)", x.knownOf(3, 63), 2);
        Due.due("not there", x.knownOf(2, 63), 0);
    }

    private static void changeAll(LeadPress x) {
        Due.word(x, 0, "ff");
        Due.word(x, 9, "cde");
        Due.sheet(x, 0, "99");
        Due.sheet(x, 5, "900");
        Due.sheet(x, 1, "99990");
        x.take(1);
        x.stand(0, 9);
        x.stand(9, -1);
        for (int sort = 0; sort < 6; sort++) {
            x.lay(sort, 20 + sort);
            x.set(10 + sort, 30 + sort);
            x.seen(sort, sort);
        }
        x.set(0, 3);
        x.set(1, 40);
    }

    /** What stays of an IMAGE is told; ImageEdgesTest looks at all of it. */
    private static void imageAndRestore() {
        LeadPress x = new LeadPress();
        Due.word(x, 9, "bc");
        Due.sheet(x, 1, "0000");
        x.stand(9, 3);
        x.seen(4, 9);
        String first = told(x, 66);
        Due.due("image(0)", x.image(0), 1);
        changeAll(x);
        String second = told(x, 66);
        Due.due("image(1)", x.image(1), 1);
        Due.due("restore(0)", x.restore(0), 1);
        Due.same("restore(0)", first, told(x, 66));
        x.lay(0, 77);
        Due.due("restore(1)", x.restore(1), 1);
        Due.same("restore(1)", second, told(x, 66));
    }

    private static String told(LeadPress x, int end) {
        StringBuilder text = new StringBuilder();
        for (int what = 0; what < end; what++) {
            text.append(x.told(what)).append(' ');
        }
        return text.toString();
    }

    private static void imageRefused() {
        LeadPress x = new LeadPress();
        int[] outside = {-1, 2, Integer.MIN_VALUE, Integer.MAX_VALUE};
        for (int n : outside) {
            Due.due("image(" + n + ")", x.image(n), Due.OUTSIDE);
            Due.due("restore(" + n + ")", x.restore(n), Due.OUTSIDE);
        }
        Due.due("restore(0)", x.restore(0), Due.STATE);
        Due.due("image(1)", x.image(1), 1);
        Due.due("restore(0)", x.restore(0), Due.STATE);
        Due.due("restore(1)", x.restore(1), 1);
    }

    private static boolean isTold(int what) {
        return what >= 0 && what <= 3 || what >= 10 && what <= 15 || what >= 20 && what <= 25
            || what >= 30 && what <= 49 || what >= 50 && what <= 55 || what >= 60 && what <= 65;
    }

    private static void told() {
        LeadPress x = new LeadPress();
        changeAll(x);
        Due.pad(x, "abc");
        for (int what = -10; what < 100; what++) {
            if (!isTold(what)) {
                Due.due("told(" + what + ")", x.told(what), Due.OUTSIDE);
            }
        }
        Due.due("told(MAX)", x.told(Integer.MAX_VALUE), Due.OUTSIDE);
        Due.due("told(MIN)", x.told(Integer.MIN_VALUE), Due.OUTSIDE);
        Due.due("signs", x.told(0), 3);
        Due.due("sheets", x.told(1), 33);
        Due.due("law", x.told(2), 3);
        Due.due("fee", x.told(3), 40);
        for (int sort = 0; sort < 6; sort++) {
            Due.due("rent", x.told(10 + sort), 30 + sort);
            Due.due("case", x.told(20 + sort), 20 + sort);
            Due.due("seen", x.told(60 + sort), sort);
        }
        Due.due("letters", x.told(30), 2);
        Due.due("letters", x.told(39), 3);
        Due.due("stand-in", x.told(40), 9);
        Due.due("stand-in", x.told(49), Due.NONE);
        Due.due("words of a sheet", x.told(50), 2);
        Due.due("words of a sheet", x.told(51), 0);
        Due.due("words of a sheet", x.told(55), 3);
    }
}
