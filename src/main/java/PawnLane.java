import java.util.Arrays;

/**
 * Pawnbrokers in one lane who have pawned their shops with one another.
 *
 * Nothing is made after the constructor: all calls of a run share one room, so every
 * call works in the arrays that stand here already.
 */
public final class PawnLane {
    public static final int BAD = -1, FULL = -2, FINDING = -3, STATE = -4, SPENT = -6, NONE = -9;

    private static final int NOTHING = 1, BEYOND = 2, UNLIKE = 3, NOUGHT = 4, SIZE = 5;
    private static final int SHOP = 0, UNCLE = 1, HAWK = 2, WIDOW = 3, AUNT = 4, VULTURE = 5;

    private static final int ROWS = 6, ROW_PLACES = 40;
    private static final int TEXTS = 4, TEXT_PLACES = 60, BLANK = 32;
    private static final int FEWEST_SHOPS = 2, MOST_SHOPS = 6, SETS = 64;
    private static final int MOST_DEEDS = 40, MOST_LOAN = 9, MOST_STOCK = 9;
    private static final int MOST_GIFT = 99, MOST_SHILLINGS = 9999, OLDEST = 99;
    private static final int KEPT = 3, MOST_LOOKS = 6, MOST_WAIT = 20;
    private static final int MOTHS = 12, MOST_LOTS = 20;
    private static final long LOT_FACTOR = 48271L, LOT_MODULUS = 2147483647L;
    private static final int TELLINGS = 7, COUNTS = 9;

    private final Sheets rows = new Sheets(ROWS, ROW_PLACES);
    private final Sheets texts = new Sheets(TEXTS, TEXT_PLACES);
    private final Reader reader = new Reader();
    private final Lane lane = new Lane();
    private final Lane[] kept = new Lane[KEPT];
    private final Orders orders = new Orders();
    private final int[] findingTimes = new int[SIZE + 1];
    private int latestFinding = 0;
    private int answer = 0;
    private long numerator = 0L;
    private long denominator = 1L;

    public PawnLane() {
        for (int k = 0; k < KEPT; k++) {
            kept[k] = new Lane();
        }
    }

    // ---- 1 rows, texts, lanes

    public int row(int r, int n) {
        if (!rows.isNumber(r) || n > ROW_PLACES) {
            return BAD;
        }
        if (n < 0) {
            return found(SIZE);
        }
        rows.begin(r, n, 0);
        return n;
    }

    public int lay(int r, int i, int v) {
        int refusal = refusalOfPlace(rows, r, i);
        if (refusal != 0) {
            return refusal;
        }
        answer = rows.valueAt(r, i);
        rows.setValue(r, i, v);
        return 1;
    }

    public int at(int r, int i) {
        int refusal = refusalOfPlace(rows, r, i);
        if (refusal != 0) {
            return refusal;
        }
        answer = rows.valueAt(r, i);
        return 1;
    }

    public int tear(int r) {
        int refusal = refusalOfSheet(rows, r);
        if (refusal != 0) {
            return refusal;
        }
        rows.remove(r);
        return 1;
    }

    public int copy(int r, int i, int to, int j, int n) {
        if (!rows.isNumber(r) || !rows.isNumber(to)) {
            return BAD;
        }
        if (n < 0) {
            return found(SIZE);
        }
        if (!rows.isThere(r) || !rows.isThere(to)) {
            return found(NOTHING);
        }
        if (!rows.hasPlaces(r, i, n) || !rows.hasPlaces(to, j, n)) {
            return found(BEYOND);
        }
        rows.move(r, i, to, j, n);
        return 1;
    }

    public int mean(int r) {
        int refusal = refusalOfSheet(rows, r);
        if (refusal != 0) {
            return refusal;
        }
        int size = rows.sizeOf(r);
        if (size == 0) {
            return found(NOUGHT);
        }
        answer = (int) (rows.sumOf(r) / size);
        return 1;
    }

    public int text(int t, int n) {
        if (!texts.isNumber(t) || n > TEXT_PLACES) {
            return BAD;
        }
        if (n < 0) {
            return found(SIZE);
        }
        texts.begin(t, n, BLANK);
        return n;
    }

    public int put(int t, int i, int v) {
        int refusal = refusalOfPlace(texts, t, i);
        if (refusal != 0) {
            return refusal;
        }
        int was = texts.valueAt(t, i);
        texts.setValue(t, i, (byte) v);
        return was + 1000;
    }

    public int fault(int t) {
        int refusal = refusalOfSheet(texts, t);
        if (refusal != 0) {
            return refusal;
        }
        return reader.faultOf(texts, t);
    }

    public int lane(int t) {
        int refusal = refusalOfSheet(texts, t);
        if (refusal != 0) {
            return refusal;
        }
        if (reader.faultOf(texts, t) != NONE) {
            return STATE;
        }
        lane.becomeLike(reader.draft);
        for (int k = 0; k < KEPT; k++) {
            kept[k].clear();
        }
        return lane.shops;
    }

    public int shop(int s, int what) {
        if (!lane.isShop(s) || what < 0 || what >= TELLINGS) {
            return BAD;
        }
        answer = toldOfShop(s, what);
        return 1;
    }

    public int mark(int s, int kind) {
        if (!lane.isShop(s) || kind < UNCLE || kind > VULTURE) {
            return BAD;
        }
        if (!isOfKind(lane.kind[s], kind)) {
            return found(UNLIKE);
        }
        switch (kind) {
            case UNCLE:
                return lane.loansTo(s);
            case HAWK:
                return lane.dueTo(s, 1) - lane.dueTo(s, 0);
            case WIDOW:
                return Integer.bitCount(lane.heldBy(s));
            case AUNT:
                return lane.loansTo(s) - lane.dueTo(s, 0);
            default:
                orders.lookAt(lane, 0);
                return Integer.bitCount(lane.heldBy(s) & orders.nextAfter(0));
        }
    }

    public int stock(int s, int v) {
        if (!lane.isShop(s) || v < 0 || v > MOST_STOCK) {
            return BAD;
        }
        if (lane.deeds.size > 0) {
            return STATE;
        }
        int was = lane.stock[s];
        lane.stock[s] = v;
        return was;
    }

    // ---- 2 deeds

    public int redeem(int s) {
        if (!lane.isShop(s)) {
            return BAD;
        }
        if (!lane.canRedeem(s)) {
            return STATE;
        }
        if (!lane.deeds.hasRoom(1)) {
            return FULL;
        }
        return lane.doRedeem(s);
    }

    public int pawn(int s, int to, int loan) {
        if (!lane.isShop(s) || !lane.isShop(to) || s == to || loan < 1 || loan > MOST_LOAN) {
            return BAD;
        }
        if (!lane.canPawn(s, to, loan)) {
            return STATE;
        }
        if (!lane.deeds.hasRoom(1)) {
            return FULL;
        }
        lane.doPawn(s, to, loan);
        return Integer.bitCount(lane.pawnedSet());
    }

    public int week() {
        if (lane.shops == 0 || lane.oldestTicket() >= OLDEST) {
            return STATE;
        }
        if (!lane.deeds.hasRoom(1)) {
            return FULL;
        }
        lane.doWeek();
        return lane.dueInAll();
    }

    public int give(int s, int v) {
        if (!lane.isShop(s) || v < 1 || v > MOST_GIFT) {
            return BAD;
        }
        if (lane.cash[s] + v > MOST_SHILLINGS) {
            return STATE;
        }
        if (!lane.deeds.hasRoom(1)) {
            return FULL;
        }
        lane.doGive(s, v);
        return lane.cash[s];
    }

    public int undo(int n) {
        int size = lane.deeds.size;
        if (n < 0 || n > size) {
            return BAD;
        }
        for (int i = size; i > n; i--) {
            lane.undoLast();
        }
        return size - n;
    }

    public int keep(int k) {
        if (k < 0 || k >= KEPT) {
            return BAD;
        }
        if (lane.shops == 0) {
            return STATE;
        }
        kept[k].becomeLike(lane);
        return lane.deeds.size;
    }

    public int on(int k) {
        if (k < 0 || k >= KEPT) {
            return BAD;
        }
        if (kept[k].shops == 0) {
            return found(NOTHING);
        }
        lane.becomeLike(kept[k]);
        return lane.deeds.size;
    }

    // ---- 3 who is whose

    public int deep(int s) {
        if (!lane.isShop(s)) {
            return BAD;
        }
        int here = s;
        for (int depth = 0; depth < lane.shops; depth++) {
            if (!lane.isPawned(here)) {
                answer = here;
                return depth;
            }
            here = lane.holder[here];
        }
        return NONE;
    }

    public int inside(int s) {
        return lane.isShop(s) ? lane.insideOf(s) : BAD;
    }

    public int rings() {
        int rings = 0;
        int members = 0;
        for (int s = 0; s < lane.shops; s++) {
            int ring = lane.ringOf(s);
            members |= ring;
            // each ring is counted at its first member alone
            if (ring != 0 && Integer.numberOfTrailingZeros(ring) == s) {
                rings++;
            }
        }
        answer = members;
        return rings;
    }

    public int goods(int s) {
        return lane.isShop(s) ? lane.stockOf(lane.insideOf(s)) : BAD;
    }

    public int hangs() {
        if (lane.shops == 0) {
            return STATE;
        }
        int first = 0;
        int most = 0;
        for (int s = 0; s < lane.shops; s++) {
            int size = Integer.bitCount(lane.insideOf(s));
            if (size > most) {
                most = size;
                first = s;
            }
        }
        answer = most;
        return first;
    }

    public int worth(int s) {
        if (!lane.isShop(s)) {
            return BAD;
        }
        int gains = lane.cash[s] + lane.stock[s] + lane.dueTo(s, 0);
        return gains - lane.dueOf(s, 0) + 1000;
    }

    public int chalk(int s, int n) {
        if (!lane.isShop(s) || n < 0 || n > MOST_LOOKS) {
            return BAD;
        }
        return chalked(lane, s, n);
    }

    // ---- 4 orders (aside, now)

    public int can() {
        orders.lookAt(lane, 0);
        return orders.nextAfter(0);
    }

    public int order(int r) {
        if (!rows.isNumber(r)) {
            return BAD;
        }
        if (lane.shops == 0) {
            return STATE;
        }
        return firstOrderTo(lane.pawnedSet(), r);
    }

    public int ways() {
        if (lane.shops == 0) {
            return STATE;
        }
        orders.lookAt(lane, 0);
        orders.countFrom(0);
        tell(orders.countOf(lane.pawnedSet()), 1L);
        return 1;
    }

    public int most() {
        if (lane.shops == 0) {
            return STATE;
        }
        orders.lookAt(lane, 0);
        orders.countFrom(0);
        answer = orders.largest();
        return Integer.bitCount(answer);
    }

    public int least() {
        if (lane.shops == 0) {
            return STATE;
        }
        orders.lookAt(lane, 0);
        int least = MOST_GIFT + 1;
        int first = NONE;
        for (int s = 0; s < lane.shops; s++) {
            int need = orders.needOf(s);
            if (need != NONE && need < least) {
                least = need;
                first = s;
            }
        }
        if (first == NONE) {
            return NONE;
        }
        answer = first;
        return least;
    }

    public int free(int s, int r) {
        if (!lane.isShop(s) || !rows.isNumber(r)) {
            return BAD;
        }
        return firstOrderTo(lane.pawnedSet() & 1 << s, r);
    }

    public int till() {
        if (lane.shops == 0) {
            return STATE;
        }
        for (int weeks = MOST_WAIT; weeks >= 0; weeks--) {
            orders.lookAt(lane, weeks);
            orders.countFrom(0);
            if (orders.countOf(lane.pawnedSet()) > 0) {
                return weeks;
            }
        }
        return NONE;
    }

    public int run(int r) {
        int refusal = refusalOfOrder(r);
        if (refusal != 0) {
            return refusal;
        }
        orders.lookAt(lane, 0);
        int redeemed = 0;
        int last = NONE;
        int size = rows.sizeOf(r);
        for (int i = 0; i < size && orders.goesOn(redeemed, rows.valueAt(r, i)); i++) {
            last = rows.valueAt(r, i);
            redeemed |= 1 << last;
        }
        answer = last == NONE ? NONE : orders.cashAfter(redeemed, last);
        return Integer.bitCount(redeemed);
    }

    // ---- 5 shutting, missing

    public int shuts(int s) {
        return lane.isShop(s) ? lane.shutBy(s) & ~(1 << s) : BAD;
    }

    public int missing(int r) {
        int refusal = refusalOfSets(r);
        if (refusal != 0) {
            return refusal;
        }
        orders.lookAt(lane, 0);
        int before = 0;
        int size = rows.sizeOf(r);
        for (int i = 0; i < size; i++) {
            int set = rows.valueAt(r, i);
            if (!orders.isStep(before, set)) {
                return 0;
            }
            before = set;
        }
        return 1;
    }

    public int through(int set) {
        int all = lane.pawnedSet();
        if ((set & ~all) != 0) {
            return BAD;
        }
        orders.lookAt(lane, 0);
        orders.countFrom(0);
        long there = orders.countOf(set);
        orders.countFrom(set);
        tell(there * orders.countOf(all), 1L);
        return 1;
    }

    // ---- 6 chances, lots

    public int odds(int p) {
        if (p < 0 || p > MOTHS) {
            return BAD;
        }
        if (lane.shops == 0) {
            return STATE;
        }
        orders.lookAt(lane, 0);
        orders.countFrom(0);
        int tickets = Integer.bitCount(lane.pawnedSet());
        long good = 0L;
        // A lost TICKET pays nothing, just as one that is not REDEEMED: what is left can be
        // REDEEMED if an ORDER makes that very set.
        for (int left = 0; left < SETS; left++) {
            if (orders.countOf(left) > 0) {
                int safe = Integer.bitCount(left);
                good += power(MOTHS - p, safe) * power(p, tickets - safe);
            }
        }
        tell(good, power(MOTHS, tickets));
        return 1;
    }

    public int lots(int n, int seed) {
        if (n < 1 || n > MOST_LOTS || seed < 1 || seed >= LOT_MODULUS) {
            return BAD;
        }
        if (lane.shops == 0) {
            return STATE;
        }
        if (!lane.deeds.hasRoom(n)) {
            return FULL;
        }
        long lot = seed;
        for (int i = 0; i < n; i++) {
            lot = lot * LOT_FACTOR % LOT_MODULUS;
            lane.doByLot((int) lot);
        }
        return Integer.bitCount(lane.pawnedSet());
    }

    // ---- 7 what is told

    public int asked() {
        return answer;
    }

    public long upper() {
        return numerator;
    }

    public long lower() {
        return denominator;
    }

    public int count(int what) {
        return what >= 0 && what < COUNTS ? counted(what) : BAD;
    }

    public int finding() {
        return latestFinding;
    }

    public int findings(int f) {
        return f >= NOTHING && f <= SIZE ? findingTimes[f] : BAD;
    }

    public long digest() {
        long h = 17L;
        for (int what = 0; what < COUNTS; what++) {
            h = 31L * h + counted(what);
        }
        for (int s = 0; s < lane.shops; s++) {
            for (int what = 0; what < TELLINGS; what++) {
                h = 31L * h + toldOfShop(s, what);
            }
        }
        for (int k = 0; k < KEPT; k++) {
            h = 31L * h + (kept[k].shops == 0 ? -1 : kept[k].deeds.size);
        }
        return texts.digestOnto(rows.digestOnto(h));
    }

    // ---- helpers of the face

    private int found(int which) {
        latestFinding = which;
        findingTimes[which]++;
        return FINDING;
    }

    private int refusalOfSheet(Sheets sheets, int number) {
        if (!sheets.isNumber(number)) {
            return BAD;
        }
        return sheets.isThere(number) ? 0 : found(NOTHING);
    }

    private int refusalOfPlace(Sheets sheets, int number, int i) {
        int refusal = refusalOfSheet(sheets, number);
        if (refusal != 0) {
            return refusal;
        }
        return sheets.hasPlaces(number, i, 1) ? 0 : found(BEYOND);
    }

    private int refusalOfAside(int r) {
        if (!rows.isNumber(r)) {
            return BAD;
        }
        return lane.shops == 0 ? STATE : refusalOfSheet(rows, r);
    }

    private int refusalOfOrder(int r) {
        int refusal = refusalOfAside(r);
        if (refusal != 0) {
            return refusal;
        }
        if (rows.sizeOf(r) > MOST_SHOPS) {
            return found(SIZE);
        }
        return rows.allBelow(r, lane.shops) ? 0 : found(UNLIKE);
    }

    private int refusalOfSets(int r) {
        int refusal = refusalOfAside(r);
        if (refusal != 0) {
            return refusal;
        }
        if (rows.sizeOf(r) < 1 || rows.sizeOf(r) > MOST_SHOPS) {
            return found(SIZE);
        }
        return rows.allBelow(r, 1 << lane.shops) ? 0 : found(UNLIKE);
    }

    private int firstOrderTo(int wanted, int r) {
        orders.lookAt(lane, 0);
        orders.measureTo(wanted);
        int steps = orders.stepsFrom(0);
        if (steps == NONE) {
            return NONE;
        }
        rows.begin(r, steps, 0);
        int redeemed = 0;
        for (int i = 0; i < steps; i++) {
            int next = orders.firstNearer(redeemed);
            rows.setValue(r, i, next);
            redeemed |= 1 << next;
        }
        return steps;
    }

    private void tell(long above, long below) {
        long divisor = Math.max(1L, commonDivisor(above, below));
        numerator = above / divisor;
        denominator = below / divisor;
    }

    private int toldOfShop(int s, int what) {
        switch (what) {
            case 0:
                return lane.kind[s];
            case 1:
                return lane.cash[s];
            case 2:
                return lane.stock[s];
            case 3:
                return lane.holder[s];
            case 4:
                return lane.dueOf(s, 0);
            case 5:
                return lane.weeks[s];
            default:
                return lane.heldBy(s);
        }
    }

    private int counted(int what) {
        switch (what) {
            case 0:
                return lane.shops;
            case 1:
                return Integer.bitCount(lane.pawnedSet());
            case 2:
                return lane.deeds.size;
            case 3:
                return lane.cashInAll();
            case 4:
                return lane.dueInAll();
            case 5:
                return lane.howManyOf(HAWK);
            case 6:
                return rows.howMany();
            case 7:
                return texts.howMany();
            default:
                return keptLanes();
        }
    }

    private int keptLanes() {
        int there = 0;
        for (int k = 0; k < KEPT; k++) {
            if (kept[k].shops > 0) {
                there++;
            }
        }
        return there;
    }

    private static boolean isIn(int set, int s) {
        return (set >> s & 1) == 1;
    }

    private static boolean isOfKind(int kind, int wanted) {
        return kind == wanted
            || wanted == SHOP
            || kind == AUNT && wanted == UNCLE
            || kind == VULTURE && wanted == HAWK;
    }

    private static int dueWith(int holderKind, int loan, int weeks) {
        switch (holderKind) {
            case UNCLE:
                return loan;
            case HAWK:
                return loan + 2 * weeks;
            case WIDOW:
                return loan + weeks / 2;
            case AUNT:
                return Math.max(1, loan - weeks);
            case VULTURE:
                return loan + 3 * weeks;
            default:
                return loan + weeks;
        }
    }

    /** The looks go down with each level, so it never goes deeper than MOST_LOOKS. */
    private static int chalked(Lane lane, int s, int looks) {
        int sum = lane.stock[s];
        if (looks <= 0) {
            return sum;
        }
        for (int other = 0; other < lane.shops; other++) {
            if (lane.holder[other] == s) {
                sum += chalked(lane, other, looks - 1) / 2;
            }
        }
        return sum;
    }

    private static long power(int base, int exponent) {
        long product = 1L;
        for (int i = 0; i < exponent; i++) {
            product *= base;
        }
        return product;
    }

    private static long commonDivisor(long a, long b) {
        long larger = a;
        long smaller = b;
        // 100 steps are more than any two numbers of this size need
        for (int step = 0; step < 100 && smaller != 0L; step++) {
            long rest = larger % smaller;
            larger = smaller;
            smaller = rest;
        }
        return larger;
    }

    /** ROWS and TEXTS alike: numbered sheets that are there with a size, or missing. */
    private static final class Sheets {
        private static final int MISSING = -1;

        private final int width;
        private final int[] sizes;
        // one array for all sheets, each at its number times the width
        private final int[] places;

        Sheets(int howMany, int width) {
            this.width = width;
            sizes = new int[howMany];
            places = new int[howMany * width];
            Arrays.fill(sizes, MISSING);
        }

        boolean isNumber(int number) {
            return number >= 0 && number < sizes.length;
        }

        boolean isThere(int number) {
            return sizes[number] != MISSING;
        }

        int sizeOf(int number) {
            return sizes[number];
        }

        boolean hasPlaces(int number, int from, int n) {
            return from >= 0 && from <= sizes[number] - n;
        }

        void begin(int number, int size, int filler) {
            sizes[number] = size;
            for (int i = 0; i < size; i++) {
                setValue(number, i, filler);
            }
        }

        void remove(int number) {
            sizes[number] = MISSING;
        }

        int valueAt(int number, int i) {
            return places[number * width + i];
        }

        void setValue(int number, int i, int v) {
            places[number * width + i] = v;
        }

        void move(int number, int i, int to, int j, int n) {
            System.arraycopy(places, number * width + i, places, to * width + j, n);
        }

        long sumOf(int number) {
            long sum = 0L;
            for (int i = 0; i < sizes[number]; i++) {
                sum += valueAt(number, i);
            }
            return sum;
        }

        boolean allBelow(int number, int bound) {
            for (int i = 0; i < sizes[number]; i++) {
                int v = valueAt(number, i);
                if (v < 0 || v >= bound) {
                    return false;
                }
            }
            return true;
        }

        int howMany() {
            int there = 0;
            for (int number = 0; number < sizes.length; number++) {
                if (isThere(number)) {
                    there++;
                }
            }
            return there;
        }

        long digestOnto(long start) {
            long h = start;
            for (int number = 0; number < sizes.length; number++) {
                h = 31L * h + sizes[number];
                for (int i = 0; i < sizes[number]; i++) {
                    h = 31L * h + valueAt(number, i);
                }
            }
            return h;
        }
    }

    /** The DEEDS of a LANE, each packed in one int, with all that undoing it needs. */
    private static final class Deeds {
        static final int REDEEMED = 0, PAWNED = 1, WEEK = 2, GIVEN = 3;

        private final int[] packed = new int[MOST_DEEDS];
        int size = 0;

        boolean hasRoom(int n) {
            return size + n <= MOST_DEEDS;
        }

        void add(int what, int shop, int other, int number, int weeks) {
            if (!hasRoom(1)) {
                return;
            }
            packed[size] = what | shop << 2 | other << 5 | number << 8 | weeks << 15;
            size++;
        }

        void removeLast() {
            if (size > 0) {
                size--;
            }
        }

        void becomeLike(Deeds like) {
            System.arraycopy(like.packed, 0, packed, 0, MOST_DEEDS);
            size = like.size;
        }

        int whatOf(int i) {
            return packed[i] & 3;
        }

        int shopOf(int i) {
            return packed[i] >> 2 & 7;
        }

        int otherOf(int i) {
            return packed[i] >> 5 & 7;
        }

        int numberOf(int i) {
            return packed[i] >> 8 & 127;
        }

        int weeksOf(int i) {
            return packed[i] >> 15 & 127;
        }
    }

    /** SHOPS, their TICKETS and DEEDS; without SHOPS it is a LANE that is missing. */
    private static final class Lane {
        int shops = 0;
        final int[] kind = new int[MOST_SHOPS];
        final int[] cash = new int[MOST_SHOPS];
        final int[] stock = new int[MOST_SHOPS];
        // NONE where a SHOP is not IN PAWN
        final int[] holder = new int[MOST_SHOPS];
        final int[] loan = new int[MOST_SHOPS];
        final int[] weeks = new int[MOST_SHOPS];
        final Deeds deeds = new Deeds();

        void clear() {
            shops = 0;
            deeds.size = 0;
        }

        void becomeLike(Lane like) {
            shops = like.shops;
            System.arraycopy(like.kind, 0, kind, 0, MOST_SHOPS);
            System.arraycopy(like.cash, 0, cash, 0, MOST_SHOPS);
            System.arraycopy(like.stock, 0, stock, 0, MOST_SHOPS);
            System.arraycopy(like.holder, 0, holder, 0, MOST_SHOPS);
            System.arraycopy(like.loan, 0, loan, 0, MOST_SHOPS);
            System.arraycopy(like.weeks, 0, weeks, 0, MOST_SHOPS);
            deeds.becomeLike(like.deeds);
        }

        void addShop(int ofKind) {
            if (shops < MOST_SHOPS) {
                kind[shops] = ofKind;
                removeTicket(shops);
                shops++;
            }
        }

        void setTicket(int s, int with, int sum, int age) {
            holder[s] = with;
            loan[s] = sum;
            weeks[s] = age;
        }

        void removeTicket(int s) {
            setTicket(s, NONE, 0, 0);
        }

        boolean isShop(int s) {
            return s >= 0 && s < shops;
        }

        boolean isPawned(int s) {
            return holder[s] != NONE;
        }

        boolean isHeldIn(int s, int set) {
            return isPawned(s) && isIn(set, holder[s]);
        }

        int pawnedSet() {
            int set = 0;
            for (int s = 0; s < shops; s++) {
                if (isPawned(s)) {
                    set |= 1 << s;
                }
            }
            return set;
        }

        int heldBy(int s) {
            int set = 0;
            for (int other = 0; other < shops; other++) {
                if (holder[other] == s) {
                    set |= 1 << other;
                }
            }
            return set;
        }

        /** What is DUE of a SHOP when so many WEEKS more have gone by. */
        int dueOf(int s, int later) {
            return isPawned(s) ? dueWith(kind[holder[s]], loan[s], weeks[s] + later) : 0;
        }

        int dueTo(int s, int later) {
            int sum = 0;
            for (int other = 0; other < shops; other++) {
                if (holder[other] == s) {
                    sum += dueOf(other, later);
                }
            }
            return sum;
        }

        int loansTo(int s) {
            int sum = 0;
            for (int other = 0; other < shops; other++) {
                if (holder[other] == s) {
                    sum += loan[other];
                }
            }
            return sum;
        }

        int dueInAll() {
            int sum = 0;
            for (int s = 0; s < shops; s++) {
                sum += dueOf(s, 0);
            }
            return sum;
        }

        int cashInAll() {
            int sum = 0;
            for (int s = 0; s < shops; s++) {
                sum += cash[s];
            }
            return sum;
        }

        int stockOf(int set) {
            int sum = 0;
            for (int s = 0; s < shops; s++) {
                if (isIn(set, s)) {
                    sum += stock[s];
                }
            }
            return sum;
        }

        int howManyOf(int wanted) {
            int there = 0;
            for (int s = 0; s < shops; s++) {
                if (isOfKind(kind[s], wanted)) {
                    there++;
                }
            }
            return there;
        }

        int oldestTicket() {
            int oldest = 0;
            for (int s = 0; s < shops; s++) {
                oldest = Math.max(oldest, weeks[s]);
            }
            return oldest;
        }

        int insideOf(int s) {
            int set = 1 << s;
            // a round adds at least one SHOP or none is left to add
            for (int round = 1; round < shops; round++) {
                for (int other = 0; other < shops; other++) {
                    if (isHeldIn(other, set)) {
                        set |= 1 << other;
                    }
                }
            }
            return set;
        }

        /** The ring that a SHOP is in (bits); 0 if it is in none. */
        int ringOf(int s) {
            int ring = 0;
            int here = s;
            for (int step = 0; step < shops && isPawned(here); step++) {
                ring |= 1 << here;
                here = holder[here];
                if (here == s) {
                    return ring;
                }
            }
            return 0;
        }

        int shutBy(int s) {
            int shut = 1 << s;
            for (int round = 1; round < shops; round++) {
                for (int other = 0; other < shops; other++) {
                    if (isHeldIn(other, shut)) {
                        shut |= 1 << other;
                    }
                    if (isIn(shut, other) && ruinsHolder(other)) {
                        shut |= 1 << holder[other];
                    }
                }
            }
            return shut;
        }

        private boolean ruinsHolder(int s) {
            return isPawned(s) && dueOf(s, 0) > cash[holder[s]];
        }

        boolean canRedeem(int s) {
            return isPawned(s) && cash[s] >= dueOf(s, 0);
        }

        boolean canPawn(int s, int to, int sum) {
            return s != to && !isPawned(s) && cash[to] >= sum;
        }

        int doRedeem(int s) {
            int paid = dueOf(s, 0);
            int to = holder[s];
            deeds.add(Deeds.REDEEMED, s, to, loan[s], weeks[s]);
            pay(s, to, paid);
            removeTicket(s);
            return paid;
        }

        void doPawn(int s, int to, int sum) {
            deeds.add(Deeds.PAWNED, s, to, sum, 0);
            pay(to, s, sum);
            setTicket(s, to, sum, 0);
        }

        void doWeek() {
            deeds.add(Deeds.WEEK, 0, 0, 0, 0);
            ageTickets(1);
        }

        void doGive(int s, int sum) {
            deeds.add(Deeds.GIVEN, s, 0, sum, 0);
            cash[s] += sum;
        }

        void doByLot(int lot) {
            if (shops == 0) {
                return;
            }
            int s = lot % shops;
            int to = lot / 16 % shops;
            int sum = lot / 256 % MOST_LOAN + 1;
            if (canRedeem(s)) {
                doRedeem(s);
            } else if (isPawned(s)) {
                doWeek();
            } else if (canPawn(s, to, sum)) {
                doPawn(s, to, sum);
            } else {
                doGive(s, 1);
            }
        }

        void undoLast() {
            if (deeds.size == 0) {
                return;
            }
            int last = deeds.size - 1;
            int s = deeds.shopOf(last);
            int other = deeds.otherOf(last);
            int number = deeds.numberOf(last);
            switch (deeds.whatOf(last)) {
                case Deeds.REDEEMED:
                    setTicket(s, other, number, deeds.weeksOf(last));
                    pay(other, s, dueOf(s, 0));
                    break;
                case Deeds.PAWNED:
                    removeTicket(s);
                    pay(s, other, number);
                    break;
                case Deeds.WEEK:
                    ageTickets(-1);
                    break;
                default:
                    cash[s] -= number;
                    break;
            }
            deeds.removeLast();
        }

        private void pay(int from, int to, int sum) {
            cash[from] -= sum;
            cash[to] += sum;
        }

        private void ageTickets(int by) {
            for (int s = 0; s < shops; s++) {
                if (isPawned(s)) {
                    weeks[s] += by;
                }
            }
        }
    }

    /** Reads a TEXT sign by sign into a draft, so that a FAULT leaves the LANE as it is. */
    private static final class Reader {
        private static final int AN_ITEM = 0, SHILLINGS = 1, STOCK = 2;
        private static final int PAWNED = 3, HOLDER = 4, LOAN = 5;

        final Lane draft = new Lane();
        private int awaited = AN_ITEM;
        private boolean ticketsBegan = false;
        private int pawned = 0;
        private int holder = 0;

        int faultOf(Sheets texts, int t) {
            draft.clear();
            awaited = AN_ITEM;
            ticketsBegan = false;
            int size = texts.sizeOf(t);
            for (int i = 0; i < size; i++) {
                if (!takes(texts.valueAt(t, i))) {
                    return i;
                }
            }
            return awaited == AN_ITEM && draft.shops >= FEWEST_SHOPS ? NONE : size;
        }

        private boolean takes(int sign) {
            if (awaited == AN_ITEM) {
                return sign == BLANK || beginsItem(sign);
            }
            int figure = sign - '0';
            if (figure < 0 || figure > 9) {
                return false;
            }
            return awaited <= STOCK ? takesOfShop(figure) : takesOfTicket(figure);
        }

        private boolean beginsItem(int sign) {
            if (sign == 't') {
                ticketsBegan = true;
                awaited = PAWNED;
                return draft.shops >= FEWEST_SHOPS;
            }
            int kind = kindOf(sign);
            if (kind == NONE || ticketsBegan || draft.shops == MOST_SHOPS) {
                return false;
            }
            draft.addShop(kind);
            awaited = SHILLINGS;
            return true;
        }

        private boolean takesOfShop(int figure) {
            int newest = draft.shops - 1;
            if (newest < 0) {
                return false;
            }
            if (awaited == SHILLINGS) {
                draft.cash[newest] = figure;
                awaited = STOCK;
            } else {
                draft.stock[newest] = figure;
                awaited = AN_ITEM;
            }
            return true;
        }

        private boolean takesOfTicket(int figure) {
            switch (awaited) {
                case PAWNED:
                    pawned = figure;
                    awaited = HOLDER;
                    return draft.isShop(figure) && !draft.isPawned(figure);
                case HOLDER:
                    holder = figure;
                    awaited = LOAN;
                    return draft.isShop(figure) && figure != pawned;
                default:
                    draft.setTicket(pawned, holder, figure, 0);
                    awaited = AN_ITEM;
                    return figure >= 1;
            }
        }

        private static int kindOf(int letter) {
            switch (letter) {
                case 's':
                    return SHOP;
                case 'u':
                    return UNCLE;
                case 'h':
                    return HAWK;
                case 'w':
                    return WIDOW;
                case 'a':
                    return AUNT;
                case 'v':
                    return VULTURE;
                default:
                    return NONE;
            }
        }
    }

    /**
     * ORDERS, aside. The SHILLINGS of each SHOP hang only on the set that has been REDEEMED,
     * not on the ORDER within it, so all ORDERS are paths through at most 64 sets.
     */
    private static final class Orders {
        private static final int FAR = 1000000;

        private int shops = 0;
        private int pawned = 0;
        private final int[] cash = new int[MOST_SHOPS];
        private final int[] holder = new int[MOST_SHOPS];
        private final int[] due = new int[MOST_SHOPS];
        private final int[] bySet = new int[SETS];

        /** Every other call here speaks of that LANE as it is, so many WEEKS later. */
        void lookAt(Lane lane, int later) {
            shops = lane.shops;
            pawned = lane.pawnedSet();
            for (int s = 0; s < shops; s++) {
                cash[s] = lane.cash[s];
                holder[s] = lane.holder[s];
                due[s] = lane.dueOf(s, later);
            }
        }

        int cashAfter(int set, int s) {
            int sum = isIn(set, s) ? cash[s] - due[s] : cash[s];
            for (int other = 0; other < shops; other++) {
                if (holder[other] == s && isIn(set, other)) {
                    sum += due[other];
                }
            }
            return sum;
        }

        private boolean isLeft(int set, int s) {
            return isIn(pawned & ~set, s);
        }

        boolean goesOn(int set, int s) {
            return isLeft(set, s) && cashAfter(set, s) >= due[s];
        }

        int nextAfter(int set) {
            int next = 0;
            for (int s = 0; s < shops; s++) {
                if (goesOn(set, s)) {
                    next |= 1 << s;
                }
            }
            return next;
        }

        boolean isStep(int before, int after) {
            int added = after & ~before;
            return (before & ~after) == 0
                && Integer.bitCount(added) == 1
                && goesOn(before, Integer.numberOfTrailingZeros(added));
        }

        /** For each set: how many ORDERS come to it from the first one. */
        void countFrom(int first) {
            Arrays.fill(bySet, 0);
            bySet[first] = 1;
            for (int set = first; set <= pawned; set++) {
                int next = bySet[set] == 0 ? 0 : nextAfter(set);
                for (int s = 0; s < shops; s++) {
                    if (isIn(next, s)) {
                        bySet[set | 1 << s] += bySet[set];
                    }
                }
            }
        }

        int countOf(int set) {
            return bySet[set];
        }

        /** The least number of the largest sets that were counted. */
        int largest() {
            int largest = 0;
            for (int set = 0; set < SETS; set++) {
                if (bySet[set] > 0 && Integer.bitCount(set) > Integer.bitCount(largest)) {
                    largest = set;
                }
            }
            return largest;
        }

        /** For each set: how many are REDEEMED, at the fewest, till the wanted ones are. */
        void measureTo(int wanted) {
            for (int set = pawned; set >= 0; set--) {
                if ((wanted & ~set) == 0) {
                    bySet[set] = 0;
                } else if ((set & ~pawned) == 0) {
                    bySet[set] = stepsBy(set, nextAfter(set));
                }
            }
        }

        private int stepsBy(int set, int next) {
            int fewest = FAR;
            for (int s = 0; s < shops; s++) {
                if (isIn(next, s)) {
                    fewest = Math.min(fewest, bySet[set | 1 << s] + 1);
                }
            }
            return fewest;
        }

        int stepsFrom(int set) {
            return bySet[set] < FAR ? bySet[set] : NONE;
        }

        /** The first SHOP by which it is a step less to what is wanted; 0 if there is none. */
        int firstNearer(int set) {
            int next = nextAfter(set);
            for (int s = 0; s < shops; s++) {
                if (isIn(next, s) && bySet[set | 1 << s] < bySet[set]) {
                    return s;
                }
            }
            return 0;
        }

        /**
         * The fewest SHILLINGS given to a SHOP by which all can be REDEEMED; NONE if none do.
         * Each pays what is DUE and no more, so a gift helps at its own redeeming alone.
         */
        int needOf(int s) {
            Arrays.fill(bySet, FAR);
            bySet[0] = 0;
            for (int set = 0; set < pawned; set++) {
                if (bySet[set] < FAR) {
                    spreadNeed(set, s);
                }
            }
            return bySet[pawned] < FAR ? bySet[pawned] : NONE;
        }

        private void spreadNeed(int set, int given) {
            for (int s = 0; s < shops; s++) {
                int lack = due[s] - cashAfter(set, s);
                if (isLeft(set, s) && (s == given || lack <= 0)) {
                    int after = set | 1 << s;
                    bySet[after] = Math.min(bySet[after], Math.max(bySet[set], lack));
                }
            }
        }
    }
}
