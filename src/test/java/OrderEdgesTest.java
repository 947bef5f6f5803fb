/** Promises 12 to 16 at their edges: judge, orders, first, most, changes. A method for each sentence. */
public final class OrderEdgesTest {
    public static void main(String[] args) {
        judgeJustEnoughAndOneTooFew();
        judgeTheFirstPlaceThatCanNotBe();
        judgeTheLeastSort();
        judgeHowManyTooFew();
        judgeWhatIsBrokenAhead();
        judgeTheOrderAlone();
        judgeOutside();
        judgeOfFaultyPad();
        ordersOfNoSheets();
        ordersOfOneToSix();
        ordersOneOfAll();
        firstOfNoSheets();
        firstByNumbers();
        firstWhereThereIsNoSuchPlace();
        firstWhereThereIsNoOrder();
        mostOfNoSheets();
        mostNoneToAll();
        mostOfSeveralSetsTheLeast();
        mostSomeOrderIsEnough();
        mostOutside();
        seenAndStandInsDoNotMatter();
        changesNone();
        changesOfAllPlaces();
        changesByNone();
        changesOfWordsWithoutStandIns();
        changesOnce();
        changesNeedMore();
        changesBreakAnother();
        changesFewestPlaces();
        changesTheLeastOfTheFirstSheet();
        changesFarBack();
        changesSeenDoesNotMatter();
        changesOfNoSuchSheet();
        changesOfFaultyPad();
        askingChangesNothing();
        Due.end();
    }

    /** Six SHEETS of one WORD a, so many of a. */
    private static LeadPress ofOneLetter(int amount) {
        LeadPress x = new LeadPress();
        for (int sheet = 0; sheet < 6; sheet++) {
            Due.sheet(x, sheet, "0");
        }
        x.lay(0, amount);
        return x;
    }

    /** SHEETS of one WORD each, from SHEET 0 on. */
    private static LeadPress of(String... words) {
        LeadPress x = new LeadPress();
        for (int sheet = 0; sheet < words.length; sheet++) {
            Due.word(x, sheet, words[sheet]);
            Due.sheet(x, sheet, "" + sheet);
        }
        return x;
    }

    private static LeadPress on(LeadPress x, String pad) {
        Due.pad(x, pad);
        return x;
    }

    private static void judged(LeadPress x, String order, int place, int sort, int few) {
        Due.pad(x, order);
        for (int again = 0; again < 2; again++) {
            Due.due("judge(0) of " + order, x.judge(0), place);
            Due.due("judge(1) of " + order, x.judge(1), sort);
            Due.due("judge(2) of " + order, x.judge(2), few);
        }
    }

    private static void canBe(LeadPress x, String order) {
        judged(x, order, Due.NONE, Due.NONE, Due.NONE);
    }

    // ---- 12 judge

    private static void judgeJustEnoughAndOneTooFew() {
        for (int sort = 0; sort < 6; sort++) {
            LeadPress x = of(("" + (char) ('a' + sort)).repeat(4));
            Due.stock(x, 0, 0, 0, 0, 0, 0);
            x.lay(sort, 4);
            canBe(x, "0");
            x.lay(sort, 3);
            judged(x, "0", 0, sort, 1);
            x.lay(sort, 0);
            judged(x, "0", 0, sort, 4);
            x.lay(sort, 99);
            canBe(x, "0");
        }
    }

    private static void judgeTheFirstPlaceThatCanNotBe() {
        for (int amount = 0; amount <= 6; amount++) {
            LeadPress x = ofOneLetter(amount);
            if (amount == 6) {
                canBe(x, "543210");
            } else {
                judged(x, "543210", amount, 0, 1);
            }
        }
        LeadPress x = of("ab", "cd", "ef");
        Due.stock(x, 1, 1, 0, 1, 0, 1);
        judged(x, "012", 1, 2, 1);
        judged(x, "021", 1, 4, 1);
        judged(x, "201", 0, 4, 1);
    }

    private static void judgeTheLeastSort() {
        LeadPress x = of("fedcb", "fffff");
        Due.stock(x, 0, 1, 1, 1, 1, 1);
        canBe(x, "0");
        Due.stock(x, 0, 1, 1, 1, 1, 0);
        judged(x, "0", 0, 5, 1);
        Due.stock(x, 0, 1, 1, 1, 0, 0);
        judged(x, "0", 0, 4, 1);
        Due.stock(x, 0, 1, 1, 0, 1, 0);
        judged(x, "0", 0, 3, 1);
        Due.stock(x, 0, 0, 0, 0, 0, 0);
        judged(x, "0", 0, 1, 1);
        Due.stock(x, 0, 0, 9, 9, 9, 4);
        judged(x, "10", 0, 5, 1);
        judged(x, "01", 0, 1, 1);
    }

    private static void judgeHowManyTooFew() {
        LeadPress x = new LeadPress();
        Due.word(x, 0, "fffff");
        Due.sheet(x, 0, "000000");
        for (int amount = 0; amount < 30; amount++) {
            x.lay(5, amount);
            Due.pad(x, "0");
            Due.due("judge(2) with " + amount, x.judge(2), 30 - amount);
        }
        x.lay(5, 30);
        canBe(x, "0");
    }

    /** One is gone of what a SHEET BREAKS, all else is laid back. */
    private static void judgeWhatIsBrokenAhead() {
        LeadPress x = of("abb", "aab", "ab");
        Due.stock(x, 2, 2);
        canBe(x, "0");
        canBe(x, "02");
        judged(x, "10", Due.NONE, Due.NONE, Due.NONE);
        canBe(x, "012");
        canBe(x, "102");
        judged(x, "010", Due.NO, Due.NO, Due.NO);
        x.set(0, 1);
        judged(x, "01", 1, 0, 1);
        judged(x, "10", 1, 1, 1);
        x.set(0, 2);
        judged(x, "01", 1, 0, 1);
        canBe(x, "02");
        judged(x, "021", 2, 0, 2);
        x.set(0, 3);
        canBe(x, "01");
        judged(x, "10", 1, 1, 1);
    }

    /** SHEETS that are not in the ORDER break nothing. */
    private static void judgeTheOrderAlone() {
        LeadPress x = ofOneLetter(1);
        for (int sheet = 0; sheet < 6; sheet++) {
            canBe(x, "" + sheet);
        }
        judged(x, "35", 1, 0, 1);
        x.seen(3, 7);
        x.stand(0, 1);
        canBe(x, "3");
    }

    private static void judgeOutside() {
        int[] outside = {-1, 3, 4, 256, 1 << 31, Integer.MAX_VALUE};
        String[] pads = {"", "0", "a", "00", "0:1"};
        for (String pad : pads) {
            for (int what : outside) {
                Look.refused("judge(" + what + ") of " + pad, () -> on(ofOneLetter(3), pad), x -> x.judge(what),
                    Due.OUTSIDE);
            }
        }
    }

    private static final String[] FAULTY = {"", "6", "/", "a", ":", "00", "010", "0:1", "01:", "0123450", "01a"};

    private static void judgeOfFaultyPad() {
        for (String pad : FAULTY) {
            for (int what = 0; what <= 2; what++) {
                int which = what;
                Look.refused("judge(" + what + ") of " + pad, () -> on(ofOneLetter(3), pad), x -> x.judge(which),
                    Due.NO);
            }
        }
        LeadPress x = on(ofOneLetter(9), "012");
        x.take(1);
        Due.due("a sheet of the order is taken", x.judge(0), Due.NO);
    }

    // ---- 13 orders

    private static void ordersOfNoSheets() {
        LeadPress x = new LeadPress();
        Due.due("no sheets", x.orders(), 1);
        Due.stock(x, 0, 0, 0, 0, 0, 0);
        Due.due("no sheets, nothing in the case", x.orders(), 1);
        x = ofOneLetter(0);
        Due.due("none can be set", x.orders(), 0);
        for (int sheet = 0; sheet < 6; sheet++) {
            x.take(sheet);
        }
        Due.due("all taken", x.orders(), 1);
    }

    private static void ordersOfOneToSix() {
        LeadPress x = ofOneLetter(6);
        int want = 720;
        for (int sheets = 6; sheets >= 1; sheets--) {
            x.lay(0, sheets);
            Due.due("orders of " + sheets, x.orders(), want);
            x.lay(0, sheets - 1);
            Due.due("one too few for " + sheets, x.orders(), 0);
            x.lay(0, 99);
            Due.due("many for " + sheets, x.orders(), want);
            x.take(6 - sheets);
            want = want / sheets;
        }
    }

    /** Six, five, .. of a: each SHEET has a place of its own. */
    private static LeadPress oneOrder(String order) {
        LeadPress x = new LeadPress();
        for (int place = 0; place < 6; place++) {
            Due.sheet(x, order.charAt(place) - '0', "000000".substring(place));
        }
        x.lay(0, 6);
        return x;
    }

    private static void ordersOneOfAll() {
        LeadPress x = oneOrder("352014");
        Due.due("one order", x.orders(), 1);
        x.lay(0, 5);
        Due.due("none", x.orders(), 0);
        x.lay(0, 7);
        Due.due("one place earlier or later", x.orders(), 32);
        x.lay(0, 11);
        Due.due("all", x.orders(), 720);
    }

    // ---- 14 first

    private static void firstIs(LeadPress x, String order) {
        for (int i = -2; i < 8; i++) {
            boolean is = i >= 0 && i < order.length();
            Due.due("first(" + i + ")", x.first(i), is ? order.charAt(i) - '0' : Due.NONE);
        }
    }

    private static void firstOfNoSheets() {
        firstIs(new LeadPress(), "");
        LeadPress x = ofOneLetter(9);
        for (int sheet = 0; sheet < 6; sheet++) {
            x.take(sheet);
        }
        firstIs(x, "");
    }

    private static void firstByNumbers() {
        firstIs(ofOneLetter(6), "012345");
        firstIs(oneOrder("352014"), "352014");
        firstIs(oneOrder("543210"), "543210");
        LeadPress x = oneOrder("543210");
        x.lay(0, 11);
        firstIs(x, "012345");
        x.lay(0, 7);
        firstIs(x, "054321");
        x.lay(0, 8);
        firstIs(x, "015432");
    }

    private static void firstWhereThereIsNoSuchPlace() {
        int[] none = {-1, 6, 7, -6, 256, 1 << 31, Integer.MAX_VALUE};
        for (int i : none) {
            Due.due("first(" + i + ") of six", ofOneLetter(6).first(i), Due.NONE);
        }
        LeadPress x = ofOneLetter(6);
        x.take(0);
        x.take(4);
        firstIs(x, "1235");
    }

    private static void firstWhereThereIsNoOrder() {
        firstIs(ofOneLetter(5), "");
        firstIs(ofOneLetter(0), "");
        LeadPress x = ofOneLetter(5);
        x.take(2);
        firstIs(x, "01345");
    }

    // ---- 15 most

    private static void most(LeadPress x, String why, int sheets, int bits) {
        Due.due("most(0), " + why, x.most(0), sheets);
        Due.due("most(1), " + why, x.most(1), bits);
    }

    private static void mostOfNoSheets() {
        most(new LeadPress(), "no sheets", 0, 0);
        LeadPress x = of("b");
        x.take(0);
        most(x, "taken", 0, 0);
    }

    private static void mostNoneToAll() {
        for (int amount = 0; amount <= 6; amount++) {
            most(ofOneLetter(amount), amount + " of a", amount, (1 << amount) - 1);
        }
        most(ofOneLetter(99), "many of a", 6, 63);
        LeadPress x = ofOneLetter(99);
        for (int sheet = 0; sheet < 5; sheet++) {
            x.take(sheet);
        }
        most(x, "the last sheet alone", 1, 32);
    }

    /** 0 with 3, 1 with 2, and 2 with 3 can be: of 9, 6 and 12 the least is 6. */
    private static void mostOfSeveralSetsTheLeast() {
        LeadPress x = of("abc", "bae", "ca", "eb");
        x.set(0, 2);
        Due.stock(x, 1, 1, 1, 0, 1, 0);
        most(x, "three sets of two", 2, 6);
        x.take(1);
        most(x, "two sets of two", 2, 9);
        x.take(0);
        most(x, "one set of two", 2, 12);
        x.take(2);
        most(x, "one sheet", 1, 8);
        LeadPress y = of("aa", "b", "aa");
        Due.stock(y, 2, 0);
        most(y, "of two that are alike", 1, 1);
    }

    /** The greater SHEET must be set ahead of the less one. */
    private static void mostSomeOrderIsEnough() {
        most(oneOrder("543210"), "in one order of 720", 6, 63);
        LeadPress x = oneOrder("543210");
        x.take(3);
        x.lay(0, 4);
        most(x, "without those that need more", 3, 7);
    }

    private static void mostOutside() {
        int[] outside = {-1, 2, 3, 256, 1 << 31, Integer.MAX_VALUE};
        for (int what : outside) {
            Look.refused("most(" + what + ")", () -> ofOneLetter(3), x -> x.most(what), Due.OUTSIDE);
            Look.refused("most(" + what + "), no sheets", LeadPress::new, x -> x.most(what), Due.OUTSIDE);
        }
    }

    /** What was SEEN is for FITS alone, STAND-INS are for CHANGES alone. */
    private static void seenAndStandInsDoNotMatter() {
        LeadPress x = oneOrder("543210");
        x.seen(0, 30);
        x.seen(5, 1);
        Due.word(x, 1, "ff");
        x.stand(0, 1);
        Due.due("orders()", x.orders(), 1);
        Due.due("fits()", x.fits(), 0);
        firstIs(x, "543210");
        Due.due("fits()", x.fits(), 0);
        most(x, "seen otherwise", 6, 63);
        x.lay(0, 5);
        Due.due("stand-ins are not taken", x.orders(), 0);
        most(x, "stand-ins are not taken", 5, 31);
    }

    // ---- 16 changes

    private static void changed(LeadPress x, String order, int... want) {
        Due.pad(x, order);
        for (int i = -1; i < want.length - 1; i++) {
            Due.due("changes(" + i + ") of " + order, x.changes(i), want[i + 1]);
        }
        Due.due("behind the order", x.changes(order.length()), Due.NONE);
    }

    private static void byNone(LeadPress x, String order) {
        Due.pad(x, order);
        for (int i = -1; i <= 6; i++) {
            Due.due("changes(" + i + ") of " + order, x.changes(i), Due.NONE);
        }
    }

    private static void changesNone() {
        changed(ofOneLetter(6), "012345", 0, 0, 0, 0, 0, 0, 0);
        changed(ofOneLetter(1), "3", 0, 0);
        LeadPress x = ofOneLetter(6);
        x.stand(0, 1);
        changed(x, "543210", 0, 0, 0, 0, 0, 0, 0);
    }

    /** Six SHEETS of six WORDS, all 36 of them changed. */
    private static void changesOfAllPlaces() {
        LeadPress x = new LeadPress();
        Due.word(x, 1, "b");
        x.stand(0, 1);
        for (int sheet = 0; sheet < 6; sheet++) {
            Due.sheet(x, sheet, "000000");
        }
        Due.stock(x, 0, 11);
        changed(x, "012345", 36, 63, 63, 63, 63, 63, 63);
        Due.stock(x, 0, 10);
        byNone(x, "012345");
        changed(x, "01234", 30, 63, 63, 63, 63, 63);
        Due.stock(x, 0, 6);
        changed(x, "5", 6, 63);
        Due.stock(x, 0, 5);
        byNone(x, "5");
        Due.stock(x, 1, 5);
        changed(x, "5", 5, 31);
        Due.stock(x, 5, 1);
        changed(x, "5", 1, 1);
        Due.stock(x, 6, 0);
        changed(x, "5", 0, 0);
    }

    private static void changesByNone() {
        byNone(ofOneLetter(5), "012345");
        byNone(ofOneLetter(0), "0");
        LeadPress x = ofOneLetter(0);
        Due.word(x, 1, "b");
        x.lay(1, 0);
        x.stand(0, 1);
        byNone(x, "0");
        x.lay(1, 1);
        changed(x, "0", 1, 1);
        byNone(x, "01");
        x.lay(1, 2);
        changed(x, "01", 2, 1, 1);
    }

    private static void changesOfWordsWithoutStandIns() {
        LeadPress x = new LeadPress();
        Due.word(x, 1, "b");
        Due.word(x, 2, "c");
        Due.sheet(x, 0, "010101");
        x.stand(0, 2);
        Due.stock(x, 0, 3, 3);
        changed(x, "0", 3, 21);
        Due.stock(x, 3, 0, 9);
        byNone(x, "0");
        x.stand(1, 2);
        changed(x, "0", 3, 42);
        x.stand(1, -1);
        byNone(x, "0");
    }

    /** A STAND-IN is not changed once more, nor to what it stands for. */
    private static void changesOnce() {
        LeadPress x = new LeadPress();
        Due.word(x, 1, "b");
        Due.word(x, 2, "c");
        Due.sheet(x, 0, "0");
        x.stand(0, 1);
        x.stand(1, 2);
        Due.stock(x, 0, 0, 9);
        byNone(x, "0");
        Due.sheet(x, 0, "1");
        changed(x, "0", 1, 1);
        x.stand(1, -1);
        Due.stock(x, 9, 0, 9);
        byNone(x, "0");
    }

    /** STAND-INS that are longer, or of more of what is there too few of, do not help. */
    private static void changesNeedMore() {
        LeadPress x = of("a");
        Due.word(x, 1, "aa");
        Due.word(x, 2, "bbbbb");
        x.stand(0, 1);
        Due.stock(x, 0, 5);
        byNone(x, "0");
        x.stand(0, 2);
        changed(x, "0", 1, 1);
        x.lay(1, 4);
        byNone(x, "0");
    }

    private static void changesBreakAnother() {
        LeadPress x = of("ab", "b");
        Due.word(x, 2, "ba");
        x.set(0, 2);
        x.stand(0, 2);
        Due.stock(x, 1, 1);
        changed(x, "01", 0, 0, 0);
        x.set(0, 3);
        changed(x, "01", 1, 1, 0);
        Due.stock(x, 1, 2);
        changed(x, "01", 0, 0, 0);
    }

    private static void changesFewestPlaces() {
        LeadPress x = new LeadPress();
        Due.word(x, 1, "b");
        Due.word(x, 2, "aaaaa");
        Due.sheet(x, 0, "0002");
        x.stand(0, 1);
        x.stand(2, 1);
        Due.stock(x, 7, 9);
        changed(x, "0", 1, 1);
        Due.stock(x, 4, 9);
        changed(x, "0", 1, 8);
        Due.stock(x, 2, 9);
        changed(x, "0", 2, 9);
    }

    /** As bits place 0 is 1: the least bits change the first places, and the first SHEET as little as can be. */
    private static void changesTheLeastOfTheFirstSheet() {
        LeadPress x = new LeadPress();
        Due.word(x, 1, "b");
        x.stand(0, 1);
        Due.sheet(x, 4, "000");
        Due.sheet(x, 2, "000");
        Due.stock(x, 2, 9);
        x.set(0, 2);
        changed(x, "42", 2, 1, 1);
        changed(x, "24", 2, 1, 1);
        x.set(0, 3);
        changed(x, "42", 2, 4, 1);
        x.set(0, 0);
        Due.stock(x, 3, 9);
        changed(x, "42", 1, 0, 1);
        x.set(0, 1);
        changed(x, "42", 1, 0, 1);
    }

    /**
     * Five SHEETS can break one of two SORTS each; the sixth needs what is left of them. So many of b must be
     * saved as it needs, and those that are changed stand as far back as they can.
     */
    private static void changesFarBack() {
        LeadPress x = new LeadPress();
        Due.word(x, 1, "ba");
        Due.word(x, 2, "ab");
        Due.word(x, 3, "b");
        x.stand(1, 2);
        x.set(0, 2);
        Due.stock(x, 9, 6);
        for (int sheet = 0; sheet < 5; sheet++) {
            Due.sheet(x, sheet, "1");
        }
        String[] ways = {"000000", "000010", "000110", "001110", "011110", "111110"};
        for (int few = 1; few <= 6; few++) {
            Due.sheet(x, 5, "333333".substring(0, few));
            String way = ways[few - 1];
            Due.pad(x, "012345");
            Due.due("places, " + few + " of b", x.changes(-1), few - 1);
            for (int i = 0; i < 6; i++) {
                Due.due("changes(" + i + "), " + few + " of b", x.changes(i), way.charAt(i) - '0');
            }
        }
    }

    private static void changesSeenDoesNotMatter() {
        LeadPress x = ofOneLetter(6);
        for (int sheet = 0; sheet < 6; sheet++) {
            x.seen(sheet, 30);
        }
        changed(x, "012345", 0, 0, 0, 0, 0, 0, 0);
        canBe(x, "012345");
    }

    private static void changesOfNoSuchSheet() {
        int[] none = {-2, 2, 3, 6, -6, 256, 1 << 31, Integer.MAX_VALUE};
        for (int i : none) {
            Due.due("changes(" + i + ") of 25", on(ofOneLetter(6), "25").changes(i), Due.NONE);
            Due.due("changes(" + i + ") of 25, by none", on(ofOneLetter(0), "25").changes(i), Due.NONE);
        }
        LeadPress x = on(ofOneLetter(6), "543210");
        Due.due("changes(5)", x.changes(5), 0);
        Due.due("changes(6)", x.changes(6), Due.NONE);
    }

    private static void changesOfFaultyPad() {
        int[] any = {-1, 0, 5, 6, -2, 1 << 31, Integer.MAX_VALUE};
        for (String pad : FAULTY) {
            for (int i : any) {
                Look.refused("changes(" + i + ") of " + pad, () -> on(ofOneLetter(3), pad), x -> x.changes(i),
                    Due.NO);
            }
        }
    }

    private static void askingChangesNothing() {
        Look.Maker made = () -> {
            LeadPress x = on(oneOrder("352014"), "3520");
            Due.word(x, 1, "bc");
            x.stand(0, 1);
            x.image(1);
            Due.pad(x, "3520");
            return x;
        };
        for (int i = -1; i < 7; i++) {
            int which = i;
            Look.unchanged("judge(" + i + ")", made, x -> x.judge(which));
            Look.unchanged("first(" + i + ")", made, x -> x.first(which));
            Look.unchanged("most(" + i + ")", made, x -> x.most(which));
            Look.unchanged("changes(" + i + ")", made, x -> x.changes(which));
        }
        Look.unchanged("orders()", made, x -> x.orders());
    }
}
