/**
 * Looks at an object from all sides, so that two of them can be compared. A look asks, and then sets what
 * must be set to see the rest (letters of words, words of sheets, images), so it uses its object up; it makes
 * at most some 300 calls, as an object is used for 512 in all.
 */
final class Look {
    static final int LOOKS = 9;

    interface Maker {
        LeadPress make();
    }

    interface Call {
        int on(LeadPress x);
    }

    private final LeadPress x;
    private final StringBuilder seen = new StringBuilder();

    private Look(LeadPress x) {
        this.x = x;
    }

    /** One of LOOKS looks: what stands, words, sheets; the same of image 0 and of image 1. */
    static String at(LeadPress x, int look) {
        Look one = new Look(x);
        if (look >= 3) {
            one.add(x.restore(look >= 6 ? 1 : 0));
        }
        switch (look % 3) {
            case 0: one.whatStands(); break;
            case 1: one.words(); break;
            default: one.sheets(); break;
        }
        return one.seen.toString();
    }

    /** All looks at new objects that are made alike. */
    static String[] all(Maker maker) {
        String[] looks = new String[LOOKS];
        for (int look = 0; look < LOOKS; look++) {
            looks[look] = at(maker.make(), look);
        }
        return looks;
    }

    /** A call is refused with an answer that is due, and changes nothing. */
    static void refused(String call, Maker maker, Call refused, int want) {
        Due.due(call, refused.on(maker.make()), want);
        unchanged(call, maker, refused);
    }

    /** After a call all stands as it stood. */
    static void unchanged(String call, Maker maker, Call asked) {
        same(call + " changes nothing", maker, () -> {
            LeadPress x = maker.make();
            asked.on(x);
            return x;
        });
    }

    /** Objects of two makers stand alike. */
    static void same(String what, Maker one, Maker other) {
        for (int look = 0; look < LOOKS; look++) {
            boolean alike = at(one.make(), look).equals(at(other.make(), look));
            Due.due(what + ", look " + look, alike ? 1 : 0, 1);
        }
    }

    private void add(int answer) {
        seen.append(answer).append(' ');
    }

    private void whatStands() {
        for (int what = 0; what < 66; what++) {
            if (what < 4 || what >= 10 && what % 10 < 6 || what >= 30 && what < 50) {
                add(x.told(what));
            }
        }
        for (int how = 0; how < 4; how++) {
            add(x.fault(how));
        }
        for (int i = -1; i < 6; i++) {
            add(x.changes(i));
            add(x.loans(i));
            add(x.melt(i));
            add(x.first(i));
            for (int j = 0; j < 6; j++) {
                add(x.needs(j, i));
                add(x.ahead(j, i));
            }
        }
        for (int what = 0; what < 3; what++) {
            add(x.judge(what));
            add(x.most(what));
        }
        add(x.presses());
        add(x.orders());
        add(x.fits());
    }

    private void words() {
        for (int word = 0; word < 10; word++) {
            add(x.known(word, 63));
            add(x.known(word, 3));
            add(x.known(word, 12));
            add(x.known(word, 21));
        }
        add(x.wipe());
        for (int word = 0; word < 10; word++) {
            x.say('0' + word);
            add(x.sheet(0));
            for (int sort = 0; sort < 6; sort++) {
                add(x.needs(0, sort));
            }
            x.set(0, 2);
            add(x.needs(0, -1));
            x.set(0, 3);
            add(x.needs(0, -1));
        }
    }

    /** Which words stand where: those of one word must be changed, when it alone has a letter that is not there. */
    private void sheets() {
        add(x.wipe());
        for (int word = 0; word < 10; word++) {
            x.say('a');
            x.word(word);
            x.stand(word, -1);
        }
        x.lay(0, 99);
        x.lay(5, 0);
        for (int word = 0; word < 10; word++) {
            x.say('f');
            x.word(word);
            x.stand(word, (word + 1) % 10);
            for (int sheet = 0; sheet < 6; sheet++) {
                if (x.say('0' + sheet) == 1) {
                    add(x.changes(0));
                }
                x.wipe();
            }
            x.say('a');
            x.word(word);
            x.stand(word, -1);
        }
    }
}
