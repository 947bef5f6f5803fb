/** Promises 25 to 27 at their edges: image, restore, told. A method for each sentence. */
public final class ImageEdgesTest {
    public static void main(String[] args) {
        imageOfBoth();
        imageOutside();
        imageChangesNothingElse();
        imageTakesThePlaceOfTheOldOne();
        restoreOfWhatWasNotKept();
        restoreOutside();
        restoreOutsideAheadOfState();
        restoreOfEachThing();
        restoreOfAllAtOnce();
        restoreOfANewObject();
        restoreLeavesThePad();
        restoreAgain();
        imagesAreApart();
        anImageDoesNotKeepTheOther();
        toldSigns();
        toldSheets();
        toldLawFeeAndRents();
        toldCase();
        toldLettersOfWords();
        toldStandIns();
        toldWordsOfSheets();
        toldSeen();
        toldOutside();
        toldChangesNothing();
        Due.end();
    }

    private static LeadPress laid() {
        LeadPress x = new LeadPress();
        Due.word(x, 0, "ab");
        Due.word(x, 9, "fedcb");
        Due.sheet(x, 0, "0909");
        Due.sheet(x, 5, "9");
        Due.sheet(x, 2, "10");
        x.stand(0, 9);
        x.stand(9, 1);
        x.lay(0, 0);
        x.lay(5, 99);
        x.set(0, 3);
        x.set(1, 99);
        x.set(10, 0);
        x.set(15, 98);
        x.seen(0, 0);
        x.seen(4, 30);
        return x;
    }

    private static LeadPress kept(int n) {
        LeadPress x = laid();
        Due.due("image(" + n + ")", x.image(n), 1);
        return x;
    }

    // ---- 25 image

    private static void imageOfBoth() {
        Due.due("image(0)", new LeadPress().image(0), 1);
        Due.due("image(1)", new LeadPress().image(1), 1);
        LeadPress x = kept(0);
        Due.due("image(0) again", x.image(0), 1);
        Due.due("image(1) too", x.image(1), 1);
    }

    private static void imageOutside() {
        int[] outside = {-1, 2, -2, 3, 256, 1 << 31, Integer.MAX_VALUE};
        for (int n : outside) {
            Look.refused("image(" + n + ")", ImageEdgesTest::laid, x -> x.image(n), Due.OUTSIDE);
            Look.refused("image(" + n + "), one kept", () -> kept(0), x -> x.image(n), Due.OUTSIDE);
        }
    }

    private static void imageChangesNothingElse() {
        for (int n = 0; n <= 1; n++) {
            for (int look = 0; look < 3; look++) {
                boolean alike = Look.at(kept(n), look).equals(Look.at(laid(), look));
                Due.due("image(" + n + ") changes nothing else, look " + look, alike ? 1 : 0, 1);
            }
            LeadPress x = laid();
            Due.pad(x, "0:5");
            x.image(n);
            Due.due("the pad stays", x.told(0), 3);
            Due.due("the pad stays", x.fault(3), Due.NONE);
        }
    }

    private static void imageTakesThePlaceOfTheOldOne() {
        Look.same("image(0) anew", () -> kept(0), () -> {
            LeadPress x = new LeadPress();
            x.image(0);
            Due.word(x, 0, "ab");
            Due.word(x, 9, "fedcb");
            Due.sheet(x, 0, "0909");
            Due.sheet(x, 5, "9");
            x.image(0);
            Due.sheet(x, 2, "10");
            x.stand(0, 9);
            x.stand(9, 1);
            x.lay(0, 0);
            x.lay(5, 99);
            x.set(0, 3);
            x.set(1, 99);
            x.set(10, 0);
            x.set(15, 98);
            x.seen(0, 0);
            x.seen(4, 30);
            x.image(0);
            return x;
        });
    }

    // ---- 26 restore

    private static void restoreOfWhatWasNotKept() {
        for (int n = 0; n <= 1; n++) {
            int which = n;
            Look.refused("restore(" + n + ")", ImageEdgesTest::laid, x -> x.restore(which), Due.STATE);
            Look.refused("restore(" + n + "), the other kept", () -> kept(1 - which), x -> x.restore(which),
                Due.STATE);
        }
    }

    private static void restoreOutside() {
        int[] outside = {-1, 2, -2, 3, 256, 1 << 31, Integer.MAX_VALUE};
        for (int n : outside) {
            Look.refused("restore(" + n + "), one kept", () -> kept(1), x -> x.restore(n), Due.OUTSIDE);
        }
    }

    private static void restoreOutsideAheadOfState() {
        int[] outside = {-1, 2, 1 << 31, Integer.MAX_VALUE};
        for (int n : outside) {
            Look.refused("restore(" + n + "), none kept", ImageEdgesTest::laid, x -> x.restore(n), Due.OUTSIDE);
        }
    }

    /** One thing is changed at a time, and comes back. */
    private static void restoreOfEachThing() {
        Look.Call[] changes = {
            x -> x.stand(0, -1), x -> x.stand(9, 8), x -> x.stand(5, 4), x -> x.lay(0, 1), x -> x.lay(5, 0),
            x -> x.lay(3, 99), x -> x.set(0, 0), x -> x.set(1, 0), x -> x.set(10, 99), x -> x.set(13, 1),
            x -> x.set(15, 0), x -> x.seen(0, -1), x -> x.seen(4, 0), x -> x.seen(5, 5), x -> x.take(0),
            x -> x.take(5), x -> spell(x, 0, "ba"), x -> spell(x, 9, "f"), x -> spell(x, 9, "fedcc"),
            x -> spell(x, 4, "aaaaa"), x -> compose(x, 0, "9090"), x -> compose(x, 0, "090"),
            x -> compose(x, 5, "99"), x -> compose(x, 5, "8"), x -> compose(x, 3, "555555"),
            x -> x.image(0), x -> x.image(1)};
        for (int i = 0; i < changes.length; i++) {
            Look.Call change = changes[i];
            for (int n = 0; n <= 1; n++) {
                int which = n;
                Look.same("change " + i + " and restore(" + n + ")", () -> both(), () -> {
                    LeadPress x = both();
                    Due.due("it is changed", change.on(x) >= Due.NONE ? 1 : 0, 1);
                    Due.due("restore(" + which + ")", x.restore(which), 1);
                    return x;
                });
            }
        }
    }

    private static LeadPress both() {
        LeadPress x = kept(0);
        x.image(1);
        return x;
    }

    private static int spell(LeadPress x, int word, String letters) {
        Due.pad(x, letters);
        return x.word(word);
    }

    private static int compose(LeadPress x, int sheet, String words) {
        Due.pad(x, words);
        return x.sheet(sheet);
    }

    private static void changeAll(LeadPress x) {
        for (int word = 0; word < 10; word++) {
            spell(x, word, "cdeff".substring(word % 5));
            x.stand(word, (word + 7) % 10);
        }
        for (int i = 0; i < 6; i++) {
            x.lay(i, 40 + i);
            x.set(10 + i, 50 + i);
            x.seen(i, 20 + i);
            x.take(i);
        }
        compose(x, 1, "123456");
        compose(x, 5, "77");
        x.set(0, 1);
        x.set(1, 60);
    }

    private static void restoreOfAllAtOnce() {
        for (int n = 0; n <= 1; n++) {
            int which = n;
            Look.same("all changed and restore(" + n + ")", () -> kept(which), () -> {
                LeadPress x = kept(which);
                changeAll(x);
                Due.due("restore(" + which + ")", x.restore(which), 1);
                return x;
            });
        }
    }

    private static void restoreOfANewObject() {
        Look.same("a new object restored", () -> {
            LeadPress x = new LeadPress();
            x.image(1);
            return x;
        }, () -> {
            LeadPress x = new LeadPress();
            x.image(1);
            changeAll(x);
            Due.due("restore(1)", x.restore(1), 1);
            return x;
        });
    }

    /** The PAD is neither kept nor given back. */
    private static void restoreLeavesThePad() {
        String[] pads = {"", "5", "abcdefabcdefab"};
        for (String before : pads) {
            for (String after : pads) {
                LeadPress x = laid();
                Due.pad(x, before);
                x.image(0);
                Due.pad(x, after);
                Due.due("restore(0)", x.restore(0), 1);
                Due.due("signs", x.told(0), after.length());
                Due.due("fault(0)", x.fault(0), after.length() > 5 ? 5 : 0);
                Due.due("fault(2)", x.fault(2), after.length() == 1 ? Due.NONE : 0);
                Due.due("wipe()", x.wipe(), after.length());
            }
        }
    }

    private static void restoreAgain() {
        Look.same("restore(0), changes, restore(0)", () -> kept(0), () -> {
            LeadPress x = kept(0);
            for (int again = 0; again < 2; again++) {
                changeAll(x);
                x.lay(0, again);
                Due.due("restore(0)", x.restore(0), 1);
                Due.due("restore(0) at once", x.restore(0), 1);
            }
            return x;
        });
    }

    private static void imagesAreApart() {
        for (int n = 0; n <= 1; n++) {
            int one = n;
            Look.Maker made = () -> {
                LeadPress x = kept(one);
                changeAll(x);
                x.image(1 - one);
                return x;
            };
            Look.same("back and forth", made, () -> {
                LeadPress x = made.make();
                Due.due("restore", x.restore(one), 1);
                Due.due("the first case", x.told(25), 99);
                Due.due("restore", x.restore(1 - one), 1);
                Due.due("the second case", x.told(25), 45);
                return x;
            });
        }
    }

    /** All but the PAD is what stands; an IMAGE that was kept later is there after restore, too. */
    private static void anImageDoesNotKeepTheOther() {
        LeadPress x = kept(0);
        x.lay(5, 98);
        x.image(1);
        x.restore(0);
        Due.due("image 1 is still kept", x.restore(1), 1);
        Due.due("as it was", x.told(25), 98);
    }

    // ---- 27 told

    private static void toldSigns() {
        LeadPress x = new LeadPress();
        for (int signs = 0; signs <= 14; signs++) {
            Due.due("told(0)", x.told(0), signs);
            x.say('~');
        }
        Due.due("told(0) of a full pad", x.told(0), 14);
    }

    private static void toldSheets() {
        for (int bits = 0; bits < 64; bits++) {
            LeadPress x = new LeadPress();
            for (int sheet = 0; sheet < 6; sheet++) {
                if ((bits >> sheet & 1) == 1) {
                    Due.sheet(x, sheet, "0");
                }
            }
            Due.due("told(1)", x.told(1), bits);
        }
    }

    private static void toldLawFeeAndRents() {
        LeadPress x = new LeadPress();
        for (int v = 0; v <= 99; v += 33) {
            x.set(0, v / 33);
            x.set(1, v);
            Due.due("told(2)", x.told(2), v / 33);
            Due.due("told(3)", x.told(3), v);
            for (int sort = 0; sort < 6; sort++) {
                x.set(10 + sort, 99 - v);
                Due.due("told of a rent", x.told(10 + sort), 99 - v);
                x.set(10 + sort, sort);
            }
            for (int sort = 0; sort < 6; sort++) {
                Due.due("told of a rent", x.told(10 + sort), sort);
            }
        }
    }

    private static void toldCase() {
        LeadPress x = new LeadPress();
        for (int sort = 0; sort < 6; sort++) {
            x.lay(sort, 99 * (sort % 2));
        }
        for (int sort = 0; sort < 6; sort++) {
            Due.due("told of the case", x.told(20 + sort), 99 * (sort % 2));
        }
    }

    private static void toldLettersOfWords() {
        LeadPress x = new LeadPress();
        for (int word = 0; word < 10; word++) {
            Due.word(x, word, "abcde".substring(word % 5));
        }
        for (int word = 0; word < 10; word++) {
            Due.due("told(" + (30 + word) + ")", x.told(30 + word), 5 - word % 5);
        }
    }

    private static void toldStandIns() {
        LeadPress x = new LeadPress();
        for (int word = 0; word < 10; word++) {
            Due.due("none", x.told(40 + word), Due.NONE);
            x.stand(word, 9 - word);
        }
        for (int word = 0; word < 10; word++) {
            Due.due("told(" + (40 + word) + ")", x.told(40 + word), 9 - word);
            x.stand(word, -1);
            Due.due("none again", x.told(40 + word), Due.NONE);
        }
    }

    private static void toldWordsOfSheets() {
        LeadPress x = new LeadPress();
        for (int sheet = 0; sheet < 6; sheet++) {
            Due.due("not there", x.told(50 + sheet), 0);
            Due.sheet(x, sheet, "012345".substring(sheet));
        }
        for (int sheet = 0; sheet < 6; sheet++) {
            Due.due("told(" + (50 + sheet) + ")", x.told(50 + sheet), 6 - sheet);
            x.take(sheet);
            Due.due("taken", x.told(50 + sheet), 0);
        }
    }

    private static void toldSeen() {
        LeadPress x = new LeadPress();
        for (int sheet = 0; sheet < 6; sheet++) {
            Due.due("not told", x.told(60 + sheet), Due.NONE);
            x.seen(sheet, 6 * sheet);
        }
        for (int sheet = 0; sheet < 6; sheet++) {
            Due.due("told(" + (60 + sheet) + ")", x.told(60 + sheet), 6 * sheet);
            x.seen(sheet, -1);
            Due.due("not told any more", x.told(60 + sheet), Due.NONE);
        }
    }

    /** The first and the last number ahead of and behind each row of numbers, and far from them. */
    private static void toldOutside() {
        int[] outside = {-1, 4, 5, 9, 16, 17, 19, 26, 29, 56, 59, 66, 67, 70, 99, 100, -2, -10, -60, 256, 65536,
            1 << 31, Integer.MAX_VALUE};
        for (int what : outside) {
            Look.refused("told(" + what + ")", () -> kept(0), x -> x.told(what), Due.OUTSIDE);
        }
    }

    private static void toldChangesNothing() {
        int[] inside = {0, 1, 2, 3, 10, 15, 20, 25, 30, 39, 40, 49, 50, 55, 60, 65};
        for (int what : inside) {
            Look.unchanged("told(" + what + ")", () -> kept(1), x -> x.told(what));
        }
    }
}
