import java.util.List;

/** Compares LeadPress with PlainPress over many states, drawn by a row of numbers that is always the same. */
public final class PlainTest {
    private static final int STATES = 1500;

    private static long row = 20261119L;

    /** 0 to bound - 1. */
    private static int draw(int bound) {
        row = row * 6364136223846793005L + 1442695040888963407L;
        return (int) ((row >>> 33) % bound);
    }

    public static void main(String[] args) {
        for (int i = 0; i < STATES; i++) {
            LeadPress x = new LeadPress();
            PlainPress plain = new PlainPress();
            lay(x, plain);
            compareAll(x, plain);
            for (int round = 0; round < 3; round++) {
                compareOrders(x, plain);
            }
        }
        Due.end();
    }

    private static String text(int most, char least, int kinds) {
        StringBuilder text = new StringBuilder();
        int length = 1 + draw(most);
        for (int i = 0; i < length; i++) {
            text.append((char) (least + draw(kinds)));
        }
        return text.toString();
    }

    /** States of all kinds: few sorts and many, scarce ones and rich ones. */
    private static void lay(LeadPress x, PlainPress plain) {
        int kinds = 1 + draw(6);
        int letters = 1 + draw(5);
        int places = 1 + draw(6);
        for (int word = 0; word < 10; word++) {
            plain.words[word] = text(letters, 'a', kinds);
            Due.word(x, word, plain.words[word]);
        }
        int rare = draw(3);
        for (int sheet = 0; sheet < 6; sheet++) {
            if (draw(4) >= rare) {
                plain.sheets[sheet] = text(places, '0', 1 + draw(10));
                Due.sheet(x, sheet, plain.sheets[sheet]);
            }
        }
        int standIns = draw(11);
        for (int word = 0; word < standIns; word++) {
            int other = draw(10);
            if (other != word) {
                plain.standIns[word] = other;
                x.stand(word, other);
            }
        }
        plain.law = draw(4);
        x.set(0, plain.law);
        plain.fee = draw(4) == 0 ? draw(100) : draw(12);
        x.set(1, plain.fee);
        layCase(x, plain, kinds);
        laySeen(x, plain);
    }

    private static void layCase(LeadPress x, PlainPress plain, int kinds) {
        int more = draw(6);
        for (int sort = 0; sort < 6; sort++) {
            int greatest = 0;
            for (int sheet = 0; sheet < 6; sheet++) {
                greatest = Math.max(greatest, plain.needs(sheet, sort));
            }
            int amount = Math.max(0, greatest + draw(2 + more) - (draw(3) == 0 ? 2 : 0));
            plain.stock[sort] = sort >= kinds && draw(2) == 0 ? 0 : amount;
            x.lay(sort, plain.stock[sort]);
            plain.rents[sort] = draw(5);
            x.set(10 + sort, plain.rents[sort]);
        }
    }

    /** What is seen by one of the orders, mostly, so that some fit. */
    private static void laySeen(LeadPress x, PlainPress plain) {
        int[] seen = plain.seenBy(shuffled(plain.there()));
        int told = draw(5);
        for (int sheet = 0; sheet < 6; sheet++) {
            if (draw(4) < told) {
                plain.marks[sheet] = draw(12) == 0 ? draw(3) : seen[sheet];
                x.seen(sheet, plain.marks[sheet]);
            }
        }
    }

    private static String shuffled(String sheets) {
        StringBuilder order = new StringBuilder();
        String rest = sheets;
        while (!rest.isEmpty()) {
            int at = draw(rest.length());
            order.append(rest.charAt(at));
            rest = rest.substring(0, at) + rest.substring(at + 1);
        }
        return order.toString();
    }

    private static void compareAll(LeadPress x, PlainPress plain) {
        String there = plain.there();
        List<String> good = plain.goodOrders(there);
        Due.due("orders()", x.orders(), good.size());
        for (int i = 0; i < 7; i++) {
            boolean is = !good.isEmpty() && i < there.length();
            Due.due("first(" + i + ")", x.first(i), is ? good.get(0).charAt(i) - '0' : Due.NONE);
        }
        Due.due("most(0)", x.most(0), plain.most(0));
        Due.due("most(1)", x.most(1), plain.most(1));
        Due.due("fits()", x.fits(), plain.fittingOrders().size());
        for (int sheet = 0; sheet < 6; sheet++) {
            int other = draw(6);
            boolean are = there.indexOf('0' + sheet) >= 0 && there.indexOf('0' + other) >= 0 && sheet != other;
            Due.due("ahead()", x.ahead(sheet, other), are ? plain.ahead(sheet, other) : Due.UNKNOWN);
            for (int sort = -1; sort < 6; sort++) {
                Due.due("needs(" + sheet + ", " + sort + ")", x.needs(sheet, sort), plain.needs(sheet, sort));
            }
            int sorts = draw(64);
            Due.due("knownOf()", x.knownOf(sheet, sorts), plain.knownOf(sheet, sorts));
        }
        for (int word = 0; word < 10; word++) {
            int sorts = draw(64);
            Due.due("known()", x.known(word, sorts), plain.known(word, sorts));
        }
    }

    private static void compareOrders(LeadPress x, PlainPress plain) {
        String order = shuffled(plain.there());
        if (draw(8) == 0) {
            order = order.substring(0, draw(order.length() + 1));
        }
        if (order.isEmpty()) {
            return;
        }
        compareOrder(x, plain, order);
        if (order.length() > 1) {
            int colon = 1 + draw(order.length() - 1);
            String rows = order.substring(0, colon) + ':' + order.substring(colon);
            Due.pad(x, rows);
            Due.due("presses() by " + rows, x.presses(), plain.presses(rows));
        }
    }

    private static void compareOrder(LeadPress x, PlainPress plain, String order) {
        Due.pad(x, order);
        for (int what = 0; what < 3; what++) {
            Due.due("judge(" + what + ") of " + order, x.judge(what), plain.judge(order, what));
        }
        int all = 0;
        int[] melted = plain.melt(order);
        Due.due("melt(-1) for " + order, x.melt(-1), melted == null ? Due.NONE : melted[0]);
        for (int sort = 0; sort < 6; sort++) {
            int cost = plain.loans(order, sort);
            all += cost;
            Due.due("loans(" + sort + ") in " + order, x.loans(sort), cost);
            Due.due("melt(" + sort + ") for " + order, x.melt(sort), melted == null ? Due.NONE : melted[sort + 1]);
        }
        Due.due("loans(-1) in " + order, x.loans(-1), all);
        if (plain.choices(order) <= 4096) {
            compareChanges(x, order, plain.changes(order));
        }
        compareChanges(x, order, plain.changesByCase(order));
    }

    private static void compareChanges(LeadPress x, String order, int[] changes) {
        for (int i = -1; i <= order.length(); i++) {
            boolean none = changes == null || i >= order.length();
            Due.due("changes(" + i + ") in " + order, x.changes(i), none ? Due.NONE : changes[i + 1]);
        }
    }
}
