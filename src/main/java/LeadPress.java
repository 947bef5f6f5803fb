/**
 * A press that breaks one letter with each sheet. The words in capitals are those of the
 * document's terms; README.md tells how the calls go together.
 */
public final class LeadPress {
    public static final int UNKNOWN = -1, OUTSIDE = -2, STATE = -3, FULL = -4, NO = -5, NONE = -6;

    private static final int SORTS = 6;
    private static final int WORDS = 10;
    private static final int SHEETS = 6;
    private static final int MOST_LETTERS = 5;
    private static final int MOST_PLACES = 6;
    private static final int MOST_SIGNS = 14;
    private static final int MOST_OF_A_SORT = 99;
    private static final int MOST_SEEN = 30;
    private static final int ALL_SORTS = 63;

    private static final int LAW = 0, FEE = 1, RENT = 10;
    private static final int AS_WORD = 0, AS_SHEET = 1, AS_ORDER = 2, AS_ROWS = 3;

    private final Shop shop = new Shop();
    private final Pad pad = new Pad();
    private final Image imageZero = new Image();
    private final Image imageOne = new Image();
    private final Bills bills = new Bills(SHEETS);
    private final Ways ways = new Ways();
    private final Walk walk = new Walk();
    private final Changer changer = new Changer();
    private final Pair pair = new Pair();

    public LeadPress() {
    }

    // ---- 1 words, sheets

    public int say(int sign) {
        if (!within(sign, 33, 126)) {
            return OUTSIDE;
        }
        return pad.count() < MOST_SIGNS ? pad.add(sign) : FULL;
    }

    public int wipe() {
        return pad.empty();
    }

    public int fault(int how) {
        return within(how, AS_WORD, AS_ROWS) ? faultAs(how) : OUTSIDE;
    }

    public int word(int word) {
        if (!isWord(word)) {
            return UNKNOWN;
        }
        if (faultAs(AS_WORD) != NONE) {
            return NO;
        }
        shop.spell(word, pad);
        return pad.empty();
    }

    public int sheet(int sheet) {
        if (!isSheet(sheet)) {
            return UNKNOWN;
        }
        if (faultAs(AS_SHEET) != NONE) {
            return NO;
        }
        shop.compose(sheet, pad);
        return pad.empty();
    }

    public int take(int sheet) {
        return isSheet(sheet) ? shop.sizes.swap(sheet, 0) : UNKNOWN;
    }

    public int stand(int word, int other) {
        if (!isWord(word)) {
            return UNKNOWN;
        }
        if (!within(other, -1, WORDS - 1) || other == word) {
            return OUTSIDE;
        }
        return shop.standIns.swap(word, other < 0 ? NONE : other);
    }

    public int lay(int sort, int v) {
        if (!isSort(sort)) {
            return UNKNOWN;
        }
        return within(v, 0, MOST_OF_A_SORT) ? shop.stock.swap(sort, v) : OUTSIDE;
    }

    public int set(int which, int v) {
        if (which == LAW) {
            return within(v, 0, 3) ? shop.settings.swap(which, v) : OUTSIDE;
        }
        if (which == FEE || isRent(which)) {
            return within(v, 0, 99) ? shop.settings.swap(which, v) : OUTSIDE;
        }
        return OUTSIDE;
    }

    public int needs(int sheet, int sort) {
        if (!isSheet(sheet) || !isSortOrAll(sort)) {
            return UNKNOWN;
        }
        bills.write(sheet, shop, sheet, 0);
        return sort < 0 ? bills.broken(sheet) : bills.amount(sheet, sort);
    }

    // ---- 2 orders

    public int judge(int what) {
        if (!within(what, 0, 2)) {
            return OUTSIDE;
        }
        if (faultAs(AS_ORDER) != NONE) {
            return NO;
        }
        walk.load(shop, pad);
        return walk.verdict(what);
    }

    public int orders() {
        ways.load(shop);
        ways.wantNoneUpsideDown();
        return ways.count(NONE, NONE);
    }

    public int first(int i) {
        ways.load(shop);
        ways.wantNoneUpsideDown();
        ways.count(NONE, NONE);
        return ways.leastAt(i);
    }

    public int most(int what) {
        if (!within(what, 0, 1)) {
            return OUTSIDE;
        }
        ways.load(shop);
        ways.wantNoneUpsideDown();
        int bits = ways.largest();
        return what == 0 ? Integer.bitCount(bits) : bits;
    }

    public int changes(int i) {
        if (faultAs(AS_ORDER) != NONE) {
            return NO;
        }
        if (!within(i, -1, pad.count() - 1)) {
            return NONE;
        }
        changer.load(shop, pad);
        return i < 0 ? changer.howMany() : changer.placesOf(i);
    }

    // ---- 3 loans, presses, lead

    public int loans(int sort) {
        if (!isSortOrAll(sort)) {
            return UNKNOWN;
        }
        if (faultAs(AS_ORDER) != NONE) {
            return NO;
        }
        walk.load(shop, pad);
        return sort < 0 ? walk.costOfAll(shop) : walk.costOf(shop, sort);
    }

    public int presses() {
        if (faultAs(AS_ROWS) != NONE) {
            return NO;
        }
        pair.load(shop, pad);
        return pair.fewestSteps();
    }

    public int melt(int sort) {
        if (!isSortOrAll(sort)) {
            return UNKNOWN;
        }
        if (faultAs(AS_ORDER) != NONE) {
            return NO;
        }
        walk.load(shop, pad);
        int place = walk.meltingPlace();
        return sort < 0 || place == NONE ? place : walk.newOf(sort);
    }

    // ---- 4 upside down

    public int seen(int sheet, int v) {
        if (!isSheet(sheet)) {
            return UNKNOWN;
        }
        if (!within(v, -1, MOST_SEEN)) {
            return OUTSIDE;
        }
        return shop.marks.swap(sheet, v < 0 ? NONE : v);
    }

    public int fits() {
        ways.load(shop);
        ways.wantAsSeen(shop);
        return ways.count(NONE, NONE);
    }

    public int ahead(int sheet, int other) {
        if (!isThere(sheet) || !isThere(other) || sheet == other) {
            return UNKNOWN;
        }
        ways.load(shop);
        ways.wantAsSeen(shop);
        int all = ways.count(NONE, NONE);
        if (all == 0) {
            return NO;
        }
        int some = ways.count(sheet, other);
        if (some == all) {
            return 1;
        }
        return some == 0 ? 0 : 2;
    }

    public int known(int word, int sorts) {
        if (!isWord(word)) {
            return UNKNOWN;
        }
        if (!within(sorts, 0, ALL_SORTS)) {
            return OUTSIDE;
        }
        return shop.isClear(word, sorts) ? 1 : 0;
    }

    public int knownOf(int sheet, int sorts) {
        if (!isSheet(sheet)) {
            return UNKNOWN;
        }
        return within(sorts, 0, ALL_SORTS) ? shop.clearPlaces(sheet, sorts) : OUTSIDE;
    }

    public int image(int n) {
        if (!within(n, 0, 1)) {
            return OUTSIDE;
        }
        imageOf(n).keep(shop);
        return 1;
    }

    public int restore(int n) {
        if (!within(n, 0, 1)) {
            return OUTSIDE;
        }
        return imageOf(n).giveTo(shop) ? 1 : STATE;
    }

    public int told(int what) {
        if (what == 0) {
            return pad.count();
        }
        if (what == 1) {
            return shop.there();
        }
        if (what == 2) {
            return shop.settings.at(LAW);
        }
        if (what == 3) {
            return shop.settings.at(FEE);
        }
        return isRent(what) ? shop.settings.at(what) : toldOfRows(what);
    }

    private int toldOfRows(int what) {
        if (isSort(what - 20)) {
            return shop.stock.at(what - 20);
        }
        if (isWord(what - 30)) {
            return shop.lengths.at(what - 30);
        }
        if (isWord(what - 40)) {
            return shop.standIns.at(what - 40);
        }
        if (isSheet(what - 50)) {
            return shop.sizes.at(what - 50);
        }
        return isSheet(what - 60) ? shop.marks.at(what - 60) : OUTSIDE;
    }

    // ---- what the calls share

    private int faultAs(int how) {
        return pad.faultAs(how, shop.there());
    }

    private boolean isThere(int sheet) {
        return isSheet(sheet) && has(shop.there(), sheet);
    }

    private Image imageOf(int n) {
        return n == 0 ? imageZero : imageOne;
    }

    private static boolean isWord(int word) {
        return within(word, 0, WORDS - 1);
    }

    private static boolean isSheet(int sheet) {
        return within(sheet, 0, SHEETS - 1);
    }

    private static boolean isSort(int sort) {
        return within(sort, 0, SORTS - 1);
    }

    private static boolean isSortOrAll(int sort) {
        return within(sort, -1, SORTS - 1);
    }

    private static boolean isRent(int which) {
        return within(which, RENT, RENT + SORTS - 1);
    }

    private static boolean within(int number, int least, int greatest) {
        return number >= least && number <= greatest;
    }

    private static boolean has(int bits, int i) {
        return (bits >> i & 1) == 1;
    }

    /** Numbers in a row. No index is wrong: outside of the row stands 0, and nothing is put there. */
    private static final class Row {
        private final int[] cells;

        Row(int length) {
            cells = new int[Math.max(0, length)];
        }

        int at(int i) {
            return i >= 0 && i < cells.length ? cells[i] : 0;
        }

        void put(int i, int v) {
            if (i >= 0 && i < cells.length) {
                cells[i] = v;
            }
        }

        /** Puts a number and answers the one that stood there. */
        int swap(int i, int v) {
            int old = at(i);
            put(i, v);
            return old;
        }

        void add(int i, int v) {
            put(i, at(i) + v);
        }

        void fill(int v) {
            fillFrom(0, v);
        }

        void fillFrom(int from, int v) {
            for (int i = Math.max(0, from); i < cells.length; i++) {
                cells[i] = v;
            }
        }

        void copy(Row other) {
            for (int i = 0; i < cells.length; i++) {
                cells[i] = other.at(i);
            }
        }

        int sum() {
            int sum = 0;
            for (int i = 0; i < cells.length; i++) {
                sum += cells[i];
            }
            return sum;
        }
    }

    /** All that an IMAGE keeps: WORDS, SHEETS, THE CASE and what is set or told of them. */
    private static final class Shop {
        final Row settings = new Row(RENT + SORTS);
        final Row stock = new Row(SORTS);
        final Row letters = new Row(WORDS * MOST_LETTERS);
        final Row lengths = new Row(WORDS);
        final Row standIns = new Row(WORDS);
        final Row pages = new Row(SHEETS * MOST_PLACES);
        final Row sizes = new Row(SHEETS);
        final Row marks = new Row(SHEETS);

        Shop() {
            settings.put(FEE, 5);
            settings.fillFrom(RENT, 2);
            stock.fill(9);
            lengths.fill(1);
            standIns.fill(NONE);
            marks.fill(NONE);
        }

        void copy(Shop other) {
            settings.copy(other.settings);
            stock.copy(other.stock);
            letters.copy(other.letters);
            lengths.copy(other.lengths);
            standIns.copy(other.standIns);
            pages.copy(other.pages);
            sizes.copy(other.sizes);
            marks.copy(other.marks);
        }

        void spell(int word, Pad pad) {
            lengths.put(word, pad.count());
            for (int i = 0; i < MOST_LETTERS; i++) {
                letters.put(word * MOST_LETTERS + i, pad.letterAt(i));
            }
        }

        void compose(int sheet, Pad pad) {
            sizes.put(sheet, pad.count());
            for (int i = 0; i < MOST_PLACES; i++) {
                pages.put(sheet * MOST_PLACES + i, pad.digitAt(i));
            }
        }

        int letterOf(int word, int i) {
            return letters.at(word * MOST_LETTERS + i);
        }

        int wordAt(int sheet, int place) {
            return pages.at(sheet * MOST_PLACES + place);
        }

        /** The SHEETS that are there, as bits. */
        int there() {
            int bits = 0;
            for (int sheet = 0; sheet < SHEETS; sheet++) {
                if (sizes.at(sheet) > 0) {
                    bits |= 1 << sheet;
                }
            }
            return bits;
        }

        /** KNOWN, with these SORTS upside down. */
        boolean isClear(int word, int sorts) {
            for (int other = 0; other < WORDS; other++) {
                if (couldBeMeant(word, other, sorts)) {
                    return false;
                }
            }
            return true;
        }

        int clearPlaces(int sheet, int sorts) {
            int clear = 0;
            for (int place = 0; place < sizes.at(sheet); place++) {
                if (isClear(wordAt(sheet, place), sorts)) {
                    clear++;
                }
            }
            return clear;
        }

        private boolean couldBeMeant(int word, int other, int sorts) {
            if (lengths.at(word) != lengths.at(other)) {
                return false;
            }
            boolean sameLetters = true;
            for (int i = 0; i < lengths.at(word); i++) {
                int own = letterOf(word, i);
                int its = letterOf(other, i);
                if (own != its) {
                    sameLetters = false;
                    if (!has(sorts, own) || !has(sorts, its)) {
                        return false;
                    }
                }
            }
            return !sameLetters;
        }
    }

    /** A Shop kept aside. */
    private static final class Image {
        private final Shop kept = new Shop();
        private boolean full = false;

        void keep(Shop shop) {
            kept.copy(shop);
            full = true;
        }

        /** False, if nothing was kept. */
        boolean giveTo(Shop shop) {
            if (full) {
                shop.copy(kept);
            }
            return full;
        }
    }

    /** THE PAD, and what can not stand on it. */
    private static final class Pad {
        private final Row signs = new Row(MOST_SIGNS);
        private int count = 0;

        int count() {
            return count;
        }

        int add(int sign) {
            signs.put(count, sign);
            count++;
            return count;
        }

        /** Answers how many signs there were. */
        int empty() {
            int were = count;
            count = 0;
            return were;
        }

        int letterAt(int i) {
            return signs.at(i) - 'a';
        }

        int digitAt(int i) {
            return signs.at(i) - '0';
        }

        /** The place of the colon; the number of signs, if there is none. */
        int colon() {
            for (int i = 0; i < count; i++) {
                if (signs.at(i) == ':') {
                    return i;
                }
            }
            return count;
        }

        int faultAs(int how, int there) {
            if (how == AS_WORD) {
                return faultAmong('a', 'f', MOST_LETTERS);
            }
            if (how == AS_SHEET) {
                return faultAmong('0', '9', MOST_PLACES);
            }
            return faultInOrders(there, how == AS_ROWS ? 2 : 1);
        }

        private int faultAmong(int least, int greatest, int most) {
            for (int i = 0; i < count; i++) {
                if (i >= most || !within(signs.at(i), least, greatest)) {
                    return i;
                }
            }
            return count == 0 ? 0 : NONE;
        }

        private int faultInOrders(int there, int rows) {
            int free = there;
            int rowsToCome = rows - 1;
            int inThisRow = 0;
            for (int i = 0; i < count; i++) {
                int sheet = digitAt(i);
                if (signs.at(i) == ':' && inThisRow > 0 && rowsToCome > 0) {
                    rowsToCome--;
                    inThisRow = 0;
                } else if (isSheet(sheet) && has(free, sheet)) {
                    free &= ~(1 << sheet);
                    inThisRow++;
                } else {
                    return i;
                }
            }
            return inThisRow == 0 || rowsToCome > 0 ? count : NONE;
        }
    }

    /** What SHEETS NEED and BREAK, a bill each. A bill that breaks NONE is none. */
    private static final class Bills {
        private final Row amounts;
        private final Row broken;

        Bills(int count) {
            amounts = new Row(count * SORTS);
            broken = new Row(count);
        }

        int amount(int bill, int sort) {
            return bill < 0 || sort < 0 ? 0 : amounts.at(bill * SORTS + sort);
        }

        int broken(int bill) {
            return broken.at(bill);
        }

        void writeAll(Shop shop) {
            for (int sheet = 0; sheet < SHEETS; sheet++) {
                write(sheet, shop, sheet, 0);
            }
        }

        /** The bill of a SHEET with STAND-INS at some places (bits); none, if there is none at one of them. */
        void write(int bill, Shop shop, int sheet, int changed) {
            for (int sort = 0; sort < SORTS; sort++) {
                amounts.put(bill * SORTS + sort, 0);
            }
            broken.put(bill, NONE);
            int size = shop.sizes.at(sheet);
            if (changed >> size != 0) {
                return;
            }
            int first = NONE;
            int last = NONE;
            for (int place = 0; place < size; place++) {
                int word = shop.wordAt(sheet, place);
                int printed = has(changed, place) ? shop.standIns.at(word) : word;
                if (printed == NONE) {
                    return;
                }
                if (place == 0) {
                    first = shop.letterOf(printed, 0);
                }
                last = shop.letterOf(printed, shop.lengths.at(printed) - 1);
                addLetters(bill, shop, printed);
            }
            broken.put(bill, byLaw(bill, shop.settings.at(LAW), first, last));
        }

        private void addLetters(int bill, Shop shop, int word) {
            for (int i = 0; i < shop.lengths.at(word); i++) {
                amounts.add(bill * SORTS + shop.letterOf(word, i), 1);
            }
        }

        private int byLaw(int bill, int law, int first, int last) {
            if (law == 2) {
                return first;
            }
            if (law == 3) {
                return last;
            }
            int best = NONE;
            for (int sort = 0; sort < SORTS; sort++) {
                int more = amount(bill, sort) - amount(bill, best);
                if (amount(bill, sort) > 0 && (best == NONE || (law == 0 ? more > 0 : more < 0))) {
                    best = sort;
                }
            }
            return best;
        }
    }

    /** THE CASE while SHEETS are printed. */
    private static final class Stock {
        private final Row full = new Row(SORTS);
        private final Row left = new Row(SORTS);

        void load(Shop shop) {
            full.copy(shop.stock);
            refill();
        }

        void refill() {
            left.copy(full);
        }

        /** How many there were of all SORTS ahead of all SHEETS. */
        int whole() {
            return full.sum();
        }

        int lost(int sort) {
            return full.at(sort) - left.at(sort);
        }

        int lackOf(Bills bills, int bill, int sort) {
            return Math.max(0, bills.amount(bill, sort) - left.at(sort));
        }

        int lacks(Bills bills, int bill) {
            int sum = 0;
            for (int sort = 0; sort < SORTS; sort++) {
                sum += Math.max(0, bills.amount(bill, sort) - left.at(sort));
            }
            return sum;
        }

        /** Has all for two SHEETS at once; NONE for a SHEET needs nothing. */
        boolean hasFor(Bills bills, int bill, int other) {
            for (int sort = 0; sort < SORTS; sort++) {
                if (bills.amount(bill, sort) + bills.amount(other, sort) > left.at(sort)) {
                    return false;
                }
            }
            return true;
        }

        void breakOne(int sort) {
            if (left.at(sort) > 0) {
                left.add(sort, -1);
            }
        }

        /** Takes back a breakOne that found one to break. */
        void mendOne(int sort) {
            left.add(sort, 1);
        }
    }

    /**
     * ORDERS of all SHEETS, by sets of SHEETS printed so far: what is broken by then hangs on the
     * set alone. That a SHEET CAN be set is the same as that it has 0 letters upside down.
     */
    private static final class Ways {
        private static final int SETS = 1 << SHEETS;

        private final Bills bills = new Bills(SHEETS);
        private final Stock stock = new Stock();
        private final Row wanted = new Row(SHEETS);
        private final Row rests = new Row(SETS);
        private int there = 0;

        void load(Shop shop) {
            bills.writeAll(shop);
            stock.load(shop);
            there = shop.there();
        }

        void wantNoneUpsideDown() {
            wanted.fill(0);
        }

        void wantAsSeen(Shop shop) {
            wanted.copy(shop.marks);
        }

        /** How many ORDERS are as wanted, with one SHEET ahead of another one (NONE: wherever). */
        int count(int ahead, int behind) {
            for (int printed = SETS - 1; printed >= 0; printed--) {
                rests.put(printed, countRests(printed, ahead, behind));
            }
            return rests.at(0);
        }

        private int countRests(int printed, int ahead, int behind) {
            if (printed == there) {
                return 1;
            }
            if ((printed & ~there) != 0) {
                return 0;
            }
            print(printed);
            int sum = 0;
            for (int sheet = 0; sheet < SHEETS; sheet++) {
                boolean early = sheet == behind && !has(printed, ahead);
                if (!early && canFollow(printed, sheet)) {
                    sum += rests.at(printed | 1 << sheet);
                }
            }
            return sum;
        }

        /** The i-th SHEET of the least ORDER that was counted; NONE. */
        int leastAt(int i) {
            int printed = 0;
            for (int place = 0; place < SHEETS; place++) {
                int next = leastAfter(printed);
                if (next == NONE || place == i) {
                    return next;
                }
                printed |= 1 << next;
            }
            return NONE;
        }

        private int leastAfter(int printed) {
            print(printed);
            for (int sheet = 0; sheet < SHEETS; sheet++) {
                if (canFollow(printed, sheet) && rests.at(printed | 1 << sheet) > 0) {
                    return sheet;
                }
            }
            return NONE;
        }

        /** MOST, as bits: a set comes behind all its parts, and of as many SHEETS the least comes first. */
        int largest() {
            int best = 0;
            rests.fill(0);
            rests.put(0, 1);
            for (int printed = 0; printed < SETS; printed++) {
                if (rests.at(printed) == 0) {
                    continue;
                }
                if (Integer.bitCount(printed) > Integer.bitCount(best)) {
                    best = printed;
                }
                print(printed);
                for (int sheet = 0; sheet < SHEETS; sheet++) {
                    if (canFollow(printed, sheet)) {
                        rests.put(printed | 1 << sheet, 1);
                    }
                }
            }
            return best;
        }

        private void print(int sheets) {
            stock.refill();
            for (int sheet = 0; sheet < SHEETS; sheet++) {
                if (has(sheets, sheet)) {
                    stock.breakOne(bills.broken(sheet));
                }
            }
        }

        private boolean canFollow(int printed, int sheet) {
            if (!has(there & ~printed, sheet)) {
                return false;
            }
            return wanted.at(sheet) == NONE || stock.lacks(bills, sheet) == wanted.at(sheet);
        }
    }

    /** One ORDER, SHEET by SHEET: JUDGED, with LOANS, MELTED. */
    private static final class Walk {
        private final Bills bills = new Bills(SHEETS);
        private final Stock stock = new Stock();
        private final Row order = new Row(SHEETS);
        private final Row lacking = new Row(SHEETS);
        private final Row wanted = new Row(SORTS);
        private final Row gone = new Row(SORTS);
        private int count = 0;

        void load(Shop shop, Pad pad) {
            bills.writeAll(shop);
            stock.load(shop);
            count = Math.min(pad.count(), SHEETS);
            for (int place = 0; place < count; place++) {
                order.put(place, pad.digitAt(place));
            }
        }

        /** The place (0), the SORT (1) or how many too few (2); NONE. */
        int verdict(int what) {
            for (int place = 0; place < count; place++) {
                int sheet = order.at(place);
                for (int sort = 0; sort < SORTS; sort++) {
                    int lack = stock.lackOf(bills, sheet, sort);
                    if (lack > 0) {
                        return what == 0 ? place : what == 1 ? sort : lack;
                    }
                }
                stock.breakOne(bills.broken(sheet));
            }
            return NONE;
        }

        int costOfAll(Shop shop) {
            int sum = 0;
            for (int sort = 0; sort < SORTS; sort++) {
                sum += costOf(shop, sort);
            }
            return sum;
        }

        int costOf(Shop shop, int sort) {
            stock.refill();
            int greatest = 0;
            for (int place = 0; place < count; place++) {
                int sheet = order.at(place);
                int lack = stock.lackOf(bills, sheet, sort);
                lacking.put(place, lack);
                greatest = Math.max(greatest, lack);
                stock.breakOne(bills.broken(sheet));
            }
            int cost = 0;
            for (int level = 1; level <= greatest; level++) {
                cost += costOfLevel(level, shop.settings.at(FEE), shop.settings.at(RENT + sort));
            }
            return cost;
        }

        /** What the level-th borrowed one of a SORT costs: between two SHEETS that want it, it stays or comes anew. */
        private int costOfLevel(int level, int fee, int rent) {
            int cost = 0;
            int last = NONE;
            for (int place = 0; place < count; place++) {
                if (lacking.at(place) >= level) {
                    int toStay = last == NONE ? fee : (place - last - 1) * rent;
                    cost += rent + Math.min(fee, toStay);
                    last = place;
                }
            }
            return cost;
        }

        /** The first place ahead of which melting helps; what is wanted from there on stays in its row. */
        int meltingPlace() {
            for (int place = 0; place <= count; place++) {
                wantFrom(place);
                if (wanted.sum() <= stock.whole()) {
                    return place;
                }
                int sheet = order.at(place);
                if (stock.lacks(bills, sheet) > 0) {
                    return NONE;
                }
                stock.breakOne(bills.broken(sheet));
            }
            return NONE;
        }

        /** How many of a SORT there are when the lead was melted. */
        int newOf(int sort) {
            return sort == 0 ? stock.whole() - wanted.sum() + wanted.at(0) : wanted.at(sort);
        }

        private void wantFrom(int from) {
            wanted.fill(0);
            gone.fill(0);
            for (int place = from; place < count; place++) {
                int sheet = order.at(place);
                for (int sort = 0; sort < SORTS; sort++) {
                    int want = bills.amount(sheet, sort) + gone.at(sort);
                    wanted.put(sort, Math.max(wanted.at(sort), want));
                }
                gone.add(bills.broken(sheet), 1);
            }
        }
    }

    /**
     * CHANGES in an ORDER. A way to change it is one number: how many places in the high bits, then
     * six bits a SHEET, the first SHEET's highest; so the least number is the way that is asked for.
     */
    private static final class Changer {
        private static final int CHOICES = 1 << MOST_PLACES;
        private static final int HIGH = SHEETS * MOST_PLACES;
        private static final int LOSSES = 462;
        private static final int COLUMNS = SORTS + 1;
        private static final int ROWS = SHEETS + SORTS - 1;
        private static final long NEVER = 1L << 60;
        private static final long NOT_YET = -1;

        private final Bills bills = new Bills(SHEETS * CHOICES);
        private final Stock stock = new Stock();
        private final Row choose = new Row(ROWS * COLUMNS);
        private final long[] least = new long[LOSSES];
        private int count = 0;
        private long way = NEVER;

        Changer() {
            for (int n = 0; n < ROWS; n++) {
                choose.put(n * COLUMNS, 1);
                for (int k = 1; k <= Math.min(n, SORTS); k++) {
                    int above = (n - 1) * COLUMNS + k;
                    choose.put(n * COLUMNS + k, choose.at(above) + choose.at(above - 1));
                }
            }
        }

        void load(Shop shop, Pad pad) {
            count = Math.min(pad.count(), SHEETS);
            for (int place = 0; place < count; place++) {
                for (int changed = 0; changed < CHOICES; changed++) {
                    bills.write(place * CHOICES + changed, shop, pad.digitAt(place), changed);
                }
            }
            stock.load(shop);
            for (int i = 0; i < least.length; i++) {
                least[i] = NOT_YET;
            }
            way = leastFrom(0);
        }

        int howMany() {
            return way < NEVER ? (int) (way >> HIGH) : NONE;
        }

        int placesOf(int place) {
            return way < NEVER ? (int) (way >> shiftOf(place)) & (CHOICES - 1) : NONE;
        }

        /** The best way from a place on; what is broken by then is all that it hangs on. */
        private long leastFrom(int place) {
            if (place >= count || place >= SHEETS) {
                return 0;
            }
            int loss = lossNumber();
            if (loss < 0 || loss >= least.length) {
                return NEVER;
            }
            if (least[loss] == NOT_YET) {
                least[loss] = searchFrom(place);
            }
            return least[loss];
        }

        private long searchFrom(int place) {
            long best = NEVER;
            for (int changed = 0; changed < CHOICES; changed++) {
                int bill = place * CHOICES + changed;
                int broken = bills.broken(bill);
                long own = (long) Integer.bitCount(changed) << HIGH | (long) changed << shiftOf(place);
                if (own < best && broken != NONE && stock.hasFor(bills, bill, NONE)) {
                    stock.breakOne(broken);
                    best = Math.min(best, own + leastFrom(place + 1));
                    stock.mendOne(broken);
                }
            }
            return best;
        }

        private static int shiftOf(int place) {
            return (SHEETS - 1 - place) * MOST_PLACES;
        }

        /** A number of its own, 0 to 461, for each way in which up to five broken ones can be of six SORTS. */
        private int lossNumber() {
            int number = 0;
            int upTo = 0;
            for (int sort = 0; sort < SORTS; sort++) {
                upTo += stock.lost(sort);
                number += choose.at((upTo + sort) * COLUMNS + sort + 1);
            }
            return number;
        }
    }

    /** TWO PRESSES: what is broken hangs only on how many SHEETS of each ROW are printed. */
    private static final class Pair {
        private static final int WIDTH = SHEETS + 1;

        private final Bills bills = new Bills(SHEETS);
        private final Stock stock = new Stock();
        private final Row left = new Row(SHEETS);
        private final Row right = new Row(SHEETS);
        private final Row steps = new Row(WIDTH * WIDTH);
        private int ofLeft = 0;
        private int ofRight = 0;

        void load(Shop shop, Pad pad) {
            bills.writeAll(shop);
            stock.load(shop);
            left.fill(NONE);
            right.fill(NONE);
            ofLeft = Math.min(pad.colon(), SHEETS);
            ofRight = Math.min(pad.count() - pad.colon() - 1, SHEETS);
            for (int i = 0; i < ofLeft; i++) {
                left.put(i, pad.digitAt(i));
            }
            for (int i = 0; i < ofRight; i++) {
                right.put(i, pad.digitAt(ofLeft + 1 + i));
            }
        }

        int fewestSteps() {
            steps.fill(NONE);
            steps.put(0, 0);
            for (int one = 0; one <= ofLeft; one++) {
                for (int other = 0; other <= ofRight; other++) {
                    if (stepsTo(one, other) != NONE) {
                        stepFrom(one, other);
                    }
                }
            }
            return stepsTo(ofLeft, ofRight);
        }

        private void stepFrom(int one, int other) {
            print(one, other);
            boolean moreLeft = one < ofLeft;
            boolean moreRight = other < ofRight;
            int next = stepsTo(one, other) + 1;
            if (moreLeft && stock.hasFor(bills, left.at(one), NONE)) {
                reach(one + 1, other, next);
            }
            if (moreRight && stock.hasFor(bills, right.at(other), NONE)) {
                reach(one, other + 1, next);
            }
            if (moreLeft && moreRight && stock.hasFor(bills, left.at(one), right.at(other))) {
                reach(one + 1, other + 1, next);
            }
        }

        private void print(int one, int other) {
            stock.refill();
            for (int i = 0; i < one; i++) {
                stock.breakOne(bills.broken(left.at(i)));
            }
            for (int i = 0; i < other; i++) {
                stock.breakOne(bills.broken(right.at(i)));
            }
        }

        private int stepsTo(int one, int other) {
            return steps.at(one * WIDTH + other);
        }

        private void reach(int one, int other, int step) {
            int known = stepsTo(one, other);
            if (known == NONE || step < known) {
                steps.put(one * WIDTH + other, step);
            }
        }
    }
}
