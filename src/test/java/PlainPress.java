import java.util.ArrayList;
import java.util.Arrays;
import java.util.HashMap;
import java.util.List;
import java.util.Map;

/**
 * The document's terms once more, in the plainest way that can be thought of (all orders one by one,
 * all changes one by one), to compare LeadPress with. It refuses nothing; it is asked only what has an answer.
 */
final class PlainPress {
    private static final int NONE = -6;

    final String[] words = new String[10];
    final String[] sheets = {"", "", "", "", "", ""};
    final int[] standIns = new int[10];
    final int[] stock = {9, 9, 9, 9, 9, 9};
    final int[] rents = {2, 2, 2, 2, 2, 2};
    final int[] marks = new int[6];
    int law = 0;
    int fee = 5;

    PlainPress() {
        for (int word = 0; word < 10; word++) {
            words[word] = "a";
            standIns[word] = NONE;
        }
        for (int sheet = 0; sheet < 6; sheet++) {
            marks[sheet] = NONE;
        }
    }

    PlainPress copy() {
        PlainPress copy = new PlainPress();
        System.arraycopy(words, 0, copy.words, 0, 10);
        System.arraycopy(sheets, 0, copy.sheets, 0, 6);
        System.arraycopy(standIns, 0, copy.standIns, 0, 10);
        System.arraycopy(stock, 0, copy.stock, 0, 6);
        System.arraycopy(rents, 0, copy.rents, 0, 6);
        System.arraycopy(marks, 0, copy.marks, 0, 6);
        copy.law = law;
        copy.fee = fee;
        return copy;
    }

    /** The letters of a sheet, a text a word; null, if a word there has no stand-in. */
    private List<String> printed(int sheet, int changed) {
        List<String> texts = new ArrayList<>();
        for (int place = 0; place < sheets[sheet].length(); place++) {
            int word = sheets[sheet].charAt(place) - '0';
            if ((changed >> place & 1) == 1) {
                word = standIns[word];
            }
            if (word < 0) {
                return null;
            }
            texts.add(words[word]);
        }
        return texts;
    }

    private static int[] needsOf(List<String> texts) {
        int[] needs = new int[6];
        for (String text : texts) {
            for (char letter : text.toCharArray()) {
                needs[letter - 'a']++;
            }
        }
        return needs;
    }

    private int breaksOf(List<String> texts) {
        if (texts.isEmpty()) {
            return NONE;
        }
        int[] needs = needsOf(texts);
        String last = texts.get(texts.size() - 1);
        int most = -1;
        int fewest = -1;
        for (int sort = 5; sort >= 0; sort--) {
            if (needs[sort] > 0) {
                most = most < 0 || needs[sort] >= needs[most] ? sort : most;
                fewest = fewest < 0 || needs[sort] <= needs[fewest] ? sort : fewest;
            }
        }
        int[] byLaw = {most, fewest, texts.get(0).charAt(0) - 'a', last.charAt(last.length() - 1) - 'a'};
        return byLaw[law];
    }

    int needs(int sheet, int sort) {
        List<String> texts = printed(sheet, 0);
        return sort < 0 ? breaksOf(texts) : needsOf(texts)[sort];
    }

    String there() {
        StringBuilder text = new StringBuilder();
        for (int sheet = 0; sheet < 6; sheet++) {
            if (!sheets[sheet].isEmpty()) {
                text.append(sheet);
            }
        }
        return text.toString();
    }

    /** The case behind a sheet. */
    private static int[] broken(int[] stock, int sort) {
        int[] left = stock.clone();
        left[sort] = Math.max(0, left[sort] - 1);
        return left;
    }

    private static int[] lacks(int[] stock, int[] needs) {
        int[] lacks = new int[7];
        for (int sort = 0; sort < 6; sort++) {
            lacks[sort] = Math.max(0, needs[sort] - stock[sort]);
            lacks[6] += lacks[sort];
        }
        return lacks;
    }

    int judge(String order, int what) {
        int[] left = stock;
        for (int place = 0; place < order.length(); place++) {
            List<String> texts = printed(order.charAt(place) - '0', 0);
            int[] lacks = lacks(left, needsOf(texts));
            for (int sort = 0; sort < 6; sort++) {
                if (lacks[sort] > 0) {
                    return new int[] {place, sort, lacks[sort]}[what];
                }
            }
            left = broken(left, breaksOf(texts));
        }
        return NONE;
    }

    private static void orders(String done, String rest, List<String> all) {
        if (rest.isEmpty()) {
            all.add(done);
        }
        for (int i = 0; i < rest.length(); i++) {
            orders(done + rest.charAt(i), rest.substring(0, i) + rest.substring(i + 1), all);
        }
    }

    private static List<String> ordersOf(String sheets) {
        List<String> all = new ArrayList<>();
        orders("", sheets, all);
        return all;
    }

    List<String> goodOrders(String sheets) {
        List<String> good = new ArrayList<>();
        for (String order : ordersOf(sheets)) {
            if (judge(order, 0) == NONE) {
                good.add(order);
            }
        }
        return good;
    }

    int most(int what) {
        int best = 0;
        for (int bits = 1; bits < 64; bits++) {
            StringBuilder some = new StringBuilder();
            for (char sheet : there().toCharArray()) {
                if ((bits >> (sheet - '0') & 1) == 1) {
                    some.append(sheet);
                }
            }
            boolean allThere = some.length() == Integer.bitCount(bits);
            if (allThere && some.length() > Integer.bitCount(best) && !goodOrders(some.toString()).isEmpty()) {
                best = bits;
            }
        }
        return what == 0 ? Integer.bitCount(best) : best;
    }

    /** How many ways of changes there are to look at. */
    long choices(String order) {
        long choices = 1;
        for (char sheet : order.toCharArray()) {
            for (char word : sheets[sheet - '0'].toCharArray()) {
                choices *= standIns[word - '0'] < 0 ? 1 : 2;
            }
        }
        return choices;
    }

    /** How many places, then each sheet's; null: by none. */
    int[] changes(String order) {
        int[][] best = {null};
        tryChanges(order, 0, stock, new int[order.length() + 1], best);
        return best[0];
    }

    private void tryChanges(String order, int place, int[] left, int[] way, int[][] best) {
        if (place == order.length()) {
            if (best[0] == null || way[0] < best[0][0]) {
                best[0] = way.clone();
            }
            return;
        }
        int sheet = order.charAt(place) - '0';
        for (int changed = 0; changed < 1 << sheets[sheet].length(); changed++) {
            List<String> texts = printed(sheet, changed);
            if (texts != null && lacks(left, needsOf(texts))[6] == 0) {
                int[] next = way.clone();
                next[0] += Integer.bitCount(changed);
                next[place + 1] = changed;
                tryChanges(order, place + 1, broken(left, breaksOf(texts)), next, best);
            }
        }
    }

    /** The same as changes, where there are too many ways: the best one from each place and case on is kept. */
    int[] changesByCase(String order) {
        return changesByCase(order, stock, new HashMap<>());
    }

    private int[] changesByCase(String order, int[] left, Map<String, int[]> kept) {
        String state = order + Arrays.toString(left);
        if (!kept.containsKey(state)) {
            kept.put(state, order.isEmpty() ? new int[1] : triedByCase(order, left, kept));
        }
        return kept.get(state);
    }

    private int[] triedByCase(String order, int[] left, Map<String, int[]> kept) {
        int sheet = order.charAt(0) - '0';
        int[] best = null;
        for (int changed = 0; changed < 1 << sheets[sheet].length(); changed++) {
            List<String> texts = printed(sheet, changed);
            int[] rest = texts == null || lacks(left, needsOf(texts))[6] > 0 ? null
                : changesByCase(order.substring(1), broken(left, breaksOf(texts)), kept);
            if (rest != null && (best == null || Integer.bitCount(changed) + rest[0] < best[0])) {
                best = new int[order.length() + 1];
                best[0] = Integer.bitCount(changed) + rest[0];
                best[1] = changed;
                System.arraycopy(rest, 1, best, 2, rest.length - 1);
            }
        }
        return best;
    }

    /** By how many are held at each sheet, 0 to 30. */
    int loans(String order, int sort) {
        int[] left = stock;
        int[] costs = new int[31];
        for (int held = 1; held <= 30; held++) {
            costs[held] = Integer.MAX_VALUE / 2;
        }
        for (char digit : order.toCharArray()) {
            List<String> texts = printed(digit - '0', 0);
            int lack = lacks(left, needsOf(texts))[sort];
            int[] next = new int[31];
            for (int held = 0; held <= 30; held++) {
                next[held] = Integer.MAX_VALUE / 2;
                for (int before = 0; held >= lack && before <= 30; before++) {
                    int cost = costs[before] + fee * Math.max(0, held - before) + rents[sort] * held;
                    next[held] = Math.min(next[held], cost);
                }
            }
            costs = next;
            left = broken(left, breaksOf(texts));
        }
        int least = costs[0];
        for (int cost : costs) {
            least = Math.min(least, cost);
        }
        return least;
    }

    int presses(String rows) {
        int colon = rows.indexOf(':');
        int steps = steps(rows.substring(0, colon), rows.substring(colon + 1), stock);
        return steps >= 100 ? NONE : steps;
    }

    private int steps(String one, String other, int[] left) {
        if (one.isEmpty() && other.isEmpty()) {
            return 0;
        }
        int least = 100;
        if (!one.isEmpty()) {
            least = Math.min(least, step(one.substring(0, 1), left, one.substring(1), other));
        }
        if (!other.isEmpty()) {
            least = Math.min(least, step(other.substring(0, 1), left, one, other.substring(1)));
        }
        if (!one.isEmpty() && !other.isEmpty()) {
            String both = one.substring(0, 1) + other.substring(0, 1);
            least = Math.min(least, step(both, left, one.substring(1), other.substring(1)));
        }
        return least;
    }

    private int step(String now, int[] left, String one, String other) {
        List<String> all = new ArrayList<>();
        int[] behind = left;
        for (char sheet : now.toCharArray()) {
            all.addAll(printed(sheet - '0', 0));
            behind = broken(behind, breaksOf(printed(sheet - '0', 0)));
        }
        return lacks(left, needsOf(all))[6] > 0 ? 100 : 1 + steps(one, other, behind);
    }

    /** The place, then how many of each sort; null: none. */
    int[] melt(String order) {
        int whole = 0;
        for (int amount : stock) {
            whole += amount;
        }
        for (int place = 0; place <= order.length(); place++) {
            if (judge(order.substring(0, place), 0) != NONE) {
                return null;
            }
            int[] answer = {place, 0, 0, 0, 0, 0, 0};
            int sum = 0;
            for (int sort = 0; sort < 6; sort++) {
                answer[sort + 1] = fewestFor(order.substring(place), sort);
                sum += answer[sort + 1];
            }
            if (sum <= whole) {
                answer[1] += whole - sum;
                return answer;
            }
        }
        return null;
    }

    /** With how few of a sort no sheet wants one of it. */
    private int fewestFor(String order, int sort) {
        for (int amount = 0; amount < 100; amount++) {
            int left = amount;
            boolean enough = true;
            for (char sheet : order.toCharArray()) {
                enough &= left >= needs(sheet - '0', sort);
                left -= needs(sheet - '0', -1) == sort ? 1 : 0;
            }
            if (enough) {
                return amount;
            }
        }
        return 1000;
    }

    /** How many letters stand upside down in each sheet by an order. */
    int[] seenBy(String order) {
        int[] seen = new int[6];
        int[] left = stock;
        for (char digit : order.toCharArray()) {
            List<String> texts = printed(digit - '0', 0);
            seen[digit - '0'] = lacks(left, needsOf(texts))[6];
            left = broken(left, breaksOf(texts));
        }
        return seen;
    }

    List<String> fittingOrders() {
        List<String> fitting = new ArrayList<>();
        for (String order : ordersOf(there())) {
            int[] seen = seenBy(order);
            boolean fits = true;
            for (char digit : order.toCharArray()) {
                int sheet = digit - '0';
                fits &= marks[sheet] == NONE || marks[sheet] == seen[sheet];
            }
            if (fits) {
                fitting.add(order);
            }
        }
        return fitting;
    }

    int ahead(int sheet, int other) {
        List<String> fitting = fittingOrders();
        int ahead = 0;
        for (String order : fitting) {
            ahead += order.indexOf('0' + sheet) < order.indexOf('0' + other) ? 1 : 0;
        }
        return fitting.isEmpty() ? -5 : ahead == fitting.size() ? 1 : ahead == 0 ? 0 : 2;
    }

    int known(int word, int sorts) {
        StringBuilder pattern = new StringBuilder();
        StringBuilder some = new StringBuilder("[");
        for (int sort = 0; sort < 6; sort++) {
            some.append((sorts >> sort & 1) == 1 ? "" + (char) ('a' + sort) : "");
        }
        some.append(']');
        for (char letter : words[word].toCharArray()) {
            pattern.append((sorts >> (letter - 'a') & 1) == 1 ? some.toString() : "" + letter);
        }
        for (String other : words) {
            if (!other.equals(words[word]) && other.matches(pattern.toString())) {
                return 0;
            }
        }
        return 1;
    }

    int knownOf(int sheet, int sorts) {
        int known = 0;
        for (char word : sheets[sheet].toCharArray()) {
            known += known(word - '0', sorts);
        }
        return known;
    }
}
