import java.math.BigInteger;
import java.util.ArrayList;
import java.util.Arrays;
import java.util.List;

/**
 * The document once more, as slowly and plainly as can be: every ORDER is walked on a copy,
 * every undoing takes up an older copy. OracleTest holds PawnLane against it.
 */
final class SlowLane {
    private static final int BAD = -1, FULL = -2, FINDING = -3, STATE = -4, NONE = -9;

    /** SHOPS and TICKETS at one time. */
    private static final class Time {
        List<int[]> shops = new ArrayList<>(); // kind, shillings, stock
        List<int[]> tickets = new ArrayList<>(); // shop, holder, loan, weeks

        Time twin() {
            Time t = new Time();
            for (int[] s : shops) {
                t.shops.add(s.clone());
            }
            for (int[] k : tickets) {
                t.tickets.add(k.clone());
            }
            return t;
        }

        int[] ticket(int s) {
            for (int[] k : tickets) {
                if (k[0] == s) {
                    return k;
                }
            }
            return null;
        }

        int due(int[] k) {
            if (k == null) {
                return 0;
            }
            int loan = k[2];
            int w = k[3];
            int kind = shops.get(k[1])[0];
            if (kind == 0) {
                return loan + w;
            } else if (kind == 1) {
                return loan;
            } else if (kind == 2) {
                return loan + w + w;
            } else if (kind == 3) {
                return loan + (w - w % 2) / 2;
            } else if (kind == 4) {
                return w >= loan ? 1 : loan - w;
            }
            return loan + w + w + w;
        }

        boolean redeem(int s) {
            int[] k = ticket(s);
            if (k == null || shops.get(s)[1] < due(k)) {
                return false;
            }
            int sum = due(k);
            shops.get(s)[1] -= sum;
            shops.get(k[1])[1] += sum;
            tickets.remove(k);
            return true;
        }

        List<int[]> heldBy(int s) {
            List<int[]> held = new ArrayList<>();
            for (int[] k : tickets) {
                if (k[1] == s) {
                    held.add(k);
                }
            }
            return held;
        }

        /** All ORDERS that can be walked, the first ones first, each shorter one ahead of what goes on from it. */
        List<List<Integer>> orders() {
            List<List<Integer>> all = new ArrayList<>();
            walk(new ArrayList<>(), all);
            return all;
        }

        private void walk(List<Integer> gone, List<List<Integer>> all) {
            all.add(new ArrayList<>(gone));
            for (int s = 0; s < shops.size(); s++) {
                Time next = twin();
                if (next.redeem(s)) {
                    gone.add(s);
                    next.walk(gone, all);
                    gone.remove(gone.size() - 1);
                }
            }
        }

        boolean allCan() {
            Time t = twin();
            boolean some = true;
            while (some) {
                some = false;
                for (int s = 0; s < t.shops.size(); s++) {
                    some |= t.redeem(s);
                }
            }
            return t.tickets.isEmpty();
        }
    }

    private final int[][] rows = new int[6][];
    private final byte[][] texts = new byte[4][];
    private Time now = new Time();
    private List<Time> before = new ArrayList<>();
    private final Time[] keptNow = new Time[3];
    private final List<List<Time>> keptBefore = new ArrayList<>(Arrays.asList(null, null, null));
    private int asked = 0, finding = 0;
    private long upper = 0, lower = 1;
    private final int[] findings = new int[6];
    private Time read;

    private int find(int f) {
        finding = f;
        findings[f]++;
        return FINDING;
    }

    private boolean noShop(int s) {
        return s < 0 || s >= now.shops.size();
    }

    private static boolean noRow(int r) {
        return r < 0 || r > 5;
    }

    private static boolean noText(int t) {
        return t < 0 || t > 3;
    }

    private static int bit(int s) {
        return (int) Math.pow(2, s);
    }

    private static int bits(List<Integer> list) {
        int set = 0;
        for (int s : list) {
            set += bit(s);
        }
        return set;
    }

    private void did() {
        before.add(now);
        now = now.twin();
    }

    int row(int r, int n) {
        if (noRow(r) || n > 40) {
            return BAD;
        }
        if (n < 0) {
            return find(5);
        }
        rows[r] = new int[n];
        return n;
    }

    int lay(int r, int i, int v) {
        int told = at(r, i);
        if (told == 1) {
            rows[r][i] = v;
        }
        return told;
    }

    int at(int r, int i) {
        if (noRow(r)) {
            return BAD;
        }
        if (rows[r] == null) {
            return find(1);
        }
        if (i < 0 || i >= rows[r].length) {
            return find(2);
        }
        asked = rows[r][i];
        return 1;
    }

    int tear(int r) {
        if (noRow(r)) {
            return BAD;
        }
        if (rows[r] == null) {
            return find(1);
        }
        rows[r] = null;
        return 1;
    }

    int copy(int r, int i, int to, int j, int n) {
        if (noRow(r) || noRow(to)) {
            return BAD;
        }
        if (n < 0) {
            return find(5);
        }
        if (rows[r] == null || rows[to] == null) {
            return find(1);
        }
        if (i < 0 || j < 0 || (long) i + n > rows[r].length || (long) j + n > rows[to].length) {
            return find(2);
        }
        int[] taken = Arrays.copyOfRange(rows[r], i, i + n);
        for (int k = 0; k < n; k++) {
            rows[to][j + k] = taken[k];
        }
        return 1;
    }

    int mean(int r) {
        if (noRow(r)) {
            return BAD;
        }
        if (rows[r] == null) {
            return find(1);
        }
        if (rows[r].length == 0) {
            return find(4);
        }
        BigInteger sum = BigInteger.ZERO;
        for (int v : rows[r]) {
            sum = sum.add(BigInteger.valueOf(v));
        }
        asked = sum.divide(BigInteger.valueOf(rows[r].length)).intValueExact();
        return 1;
    }

    int text(int t, int n) {
        if (noText(t) || n > 60) {
            return BAD;
        }
        if (n < 0) {
            return find(5);
        }
        texts[t] = new byte[n];
        Arrays.fill(texts[t], (byte) ' ');
        return n;
    }

    int put(int t, int i, int v) {
        if (noText(t)) {
            return BAD;
        }
        if (texts[t] == null) {
            return find(1);
        }
        if (i < 0 || i >= texts[t].length) {
            return find(2);
        }
        int was = texts[t][i];
        texts[t][i] = (byte) v;
        return was + 1000;
    }

    private static int figure(byte[] b, int i) {
        return i < b.length && b[i] >= '0' && b[i] <= '9' ? b[i] - '0' : -1;
    }

    private int readText(byte[] b) {
        read = new Time();
        int i = 0;
        while (i < b.length && (b[i] == ' ' || "suhwav".indexOf(b[i]) >= 0)) {
            if (b[i] == ' ') {
                i++;
                continue;
            }
            if (read.shops.size() == 6) {
                return i;
            }
            int kind = "suhwav".indexOf(b[i]);
            if (figure(b, i + 1) < 0) {
                return i + 1;
            }
            if (figure(b, i + 2) < 0) {
                return i + 2;
            }
            read.shops.add(new int[] {kind, figure(b, i + 1), figure(b, i + 2)});
            i += 3;
        }
        if (read.shops.size() < 2) {
            return i;
        }
        while (i < b.length) {
            if (b[i] == ' ') {
                i++;
                continue;
            }
            if (b[i] != 't') {
                return i;
            }
            int s = figure(b, i + 1);
            if (s < 0 || s >= read.shops.size() || read.ticket(s) != null) {
                return i + 1;
            }
            int h = figure(b, i + 2);
            if (h < 0 || h >= read.shops.size() || h == s) {
                return i + 2;
            }
            if (figure(b, i + 3) < 1) {
                return i + 3;
            }
            read.tickets.add(new int[] {s, h, figure(b, i + 3), 0});
            i += 4;
        }
        return NONE;
    }

    int fault(int t) {
        if (noText(t)) {
            return BAD;
        }
        return texts[t] == null ? find(1) : readText(texts[t]);
    }

    int lane(int t) {
        if (noText(t)) {
            return BAD;
        }
        if (texts[t] == null) {
            return find(1);
        }
        if (readText(texts[t]) != NONE) {
            return STATE;
        }
        now = read;
        before = new ArrayList<>();
        Arrays.fill(keptNow, null);
        return now.shops.size();
    }

    private int shopTells(int s, int what) {
        int[] k = now.ticket(s);
        if (what <= 2) {
            return now.shops.get(s)[what];
        }
        if (what == 3) {
            return k == null ? NONE : k[1];
        }
        if (what == 4) {
            return now.due(k);
        }
        if (what == 5) {
            return k == null ? 0 : k[3];
        }
        int set = 0;
        for (int[] held : now.heldBy(s)) {
            set += bit(held[0]);
        }
        return set;
    }

    int shop(int s, int what) {
        if (noShop(s) || what < 0 || what > 6) {
            return BAD;
        }
        asked = shopTells(s, what);
        return 1;
    }

    int mark(int s, int kind) {
        if (noShop(s) || kind < 1 || kind > 5) {
            return BAD;
        }
        int own = now.shops.get(s)[0];
        boolean is = own == kind || own == 4 && kind == 1 || own == 5 && kind == 2;
        if (!is) {
            return find(3);
        }
        int sum = 0;
        for (int[] k : now.heldBy(s)) {
            int[] older = {k[0], k[1], k[2], k[3] + 1};
            if (kind == 1) {
                sum += k[2];
            } else if (kind == 2) {
                sum += now.due(older) - now.due(k);
            } else if (kind == 3) {
                sum++;
            } else if (kind == 4) {
                sum += k[2] - now.due(k);
            } else if (now.twin().redeem(k[0])) {
                sum++;
            }
        }
        return sum;
    }

    int stock(int s, int v) {
        if (noShop(s) || v < 0 || v > 9) {
            return BAD;
        }
        if (!before.isEmpty()) {
            return STATE;
        }
        int was = now.shops.get(s)[2];
        now.shops.get(s)[2] = v;
        return was;
    }

    int redeem(int s) {
        if (noShop(s)) {
            return BAD;
        }
        if (!now.twin().redeem(s)) {
            return STATE;
        }
        if (before.size() >= 40) {
            return FULL;
        }
        int paid = now.due(now.ticket(s));
        did();
        now.redeem(s);
        return paid;
    }

    int pawn(int s, int to, int loan) {
        if (noShop(s) || noShop(to) || s == to || loan < 1 || loan > 9) {
            return BAD;
        }
        if (now.ticket(s) != null || now.shops.get(to)[1] < loan) {
            return STATE;
        }
        if (before.size() >= 40) {
            return FULL;
        }
        did();
        now.shops.get(s)[1] += loan;
        now.shops.get(to)[1] -= loan;
        now.tickets.add(new int[] {s, to, loan, 0});
        return now.tickets.size();
    }

    int week() {
        if (now.shops.isEmpty()) {
            return STATE;
        }
        for (int[] k : now.tickets) {
            if (k[3] == 99) {
                return STATE;
            }
        }
        if (before.size() >= 40) {
            return FULL;
        }
        did();
        int sum = 0;
        for (int[] k : now.tickets) {
            k[3]++;
            sum += now.due(k);
        }
        return sum;
    }

    int give(int s, int v) {
        if (noShop(s) || v < 1 || v > 99) {
            return BAD;
        }
        if (now.shops.get(s)[1] + v > 9999) {
            return STATE;
        }
        if (before.size() >= 40) {
            return FULL;
        }
        did();
        now.shops.get(s)[1] += v;
        return now.shops.get(s)[1];
    }

    int undo(int n) {
        if (n < 0 || n > before.size()) {
            return BAD;
        }
        int many = before.size() - n;
        if (many > 0) {
            now = before.get(n).twin();
            before = new ArrayList<>(before.subList(0, n));
        }
        return many;
    }

    int keep(int k) {
        if (k < 0 || k > 2) {
            return BAD;
        }
        if (now.shops.isEmpty()) {
            return STATE;
        }
        keptNow[k] = now.twin();
        keptBefore.set(k, new ArrayList<>(before));
        return before.size();
    }

    int on(int k) {
        if (k < 0 || k > 2) {
            return BAD;
        }
        if (keptNow[k] == null) {
            return find(1);
        }
        now = keptNow[k].twin();
        before = new ArrayList<>(keptBefore.get(k));
        return before.size();
    }

    private List<Integer> holders(int s) {
        List<Integer> seen = new ArrayList<>();
        int here = s;
        while (now.ticket(here) != null) {
            here = now.ticket(here)[1];
            if (seen.contains(here)) {
                return null;
            }
            seen.add(here);
        }
        return seen;
    }

    int deep(int s) {
        if (noShop(s)) {
            return BAD;
        }
        List<Integer> chain = holders(s);
        if (chain == null) {
            return NONE;
        }
        asked = chain.isEmpty() ? s : chain.get(chain.size() - 1);
        return chain.size();
    }

    private boolean isInside(int s, int other) {
        int here = other;
        for (int step = 0; step <= 6; step++) {
            if (here == s) {
                return true;
            }
            if (now.ticket(here) == null) {
                return false;
            }
            here = now.ticket(here)[1];
        }
        return false;
    }

    int inside(int s) {
        if (noShop(s)) {
            return BAD;
        }
        int set = 0;
        for (int other = 0; other < now.shops.size(); other++) {
            if (isInside(s, other)) {
                set += bit(other);
            }
        }
        return set;
    }

    int rings() {
        List<Integer> found = new ArrayList<>();
        int members = 0;
        for (int s = 0; s < now.shops.size(); s++) {
            int[] k = now.ticket(s);
            if (k == null || !isInside(s, k[1])) {
                continue;
            }
            int ring = bit(s);
            for (int here = k[1]; here != s; here = now.ticket(here)[1]) {
                ring += bit(here);
            }
            members |= bit(s);
            if (!found.contains(ring)) {
                found.add(ring);
            }
        }
        asked = members;
        return found.size();
    }

    int goods(int s) {
        if (noShop(s)) {
            return BAD;
        }
        int sum = 0;
        for (int other = 0; other < now.shops.size(); other++) {
            sum += isInside(s, other) ? now.shops.get(other)[2] : 0;
        }
        return sum;
    }

    int hangs() {
        if (now.shops.isEmpty()) {
            return STATE;
        }
        for (int size = 6; size > 0; size--) {
            for (int s = 0; s < now.shops.size(); s++) {
                if (Integer.bitCount(inside(s)) == size) {
                    asked = size;
                    return s;
                }
            }
        }
        throw new IllegalStateException();
    }

    int worth(int s) {
        if (noShop(s)) {
            return BAD;
        }
        int sum = 1000 + now.shops.get(s)[1] + now.shops.get(s)[2] - now.due(now.ticket(s));
        for (int[] k : now.heldBy(s)) {
            sum += now.due(k);
        }
        return sum;
    }

    int chalk(int s, int n) {
        if (noShop(s) || n < 0 || n > 6) {
            return BAD;
        }
        int[] old = new int[now.shops.size()];
        for (int look = 0; look <= n; look++) {
            int[] fresh = new int[old.length];
            for (int i = 0; i < old.length; i++) {
                fresh[i] = now.shops.get(i)[2];
                for (int[] k : now.heldBy(i)) {
                    fresh[i] += look == 0 ? 0 : Math.floorDiv(old[k[0]], 2);
                }
            }
            old = fresh;
        }
        return old[s];
    }

    int can() {
        int set = 0;
        for (int s = 0; s < now.shops.size(); s++) {
            set += now.twin().redeem(s) ? bit(s) : 0;
        }
        return set;
    }

    private void rowOf(int r, List<Integer> list) {
        rows[r] = new int[list.size()];
        for (int i = 0; i < list.size(); i++) {
            rows[r][i] = list.get(i);
        }
    }

    private List<List<Integer>> wholeOrders() {
        List<List<Integer>> whole = new ArrayList<>();
        for (List<Integer> o : now.orders()) {
            if (o.size() == now.tickets.size()) {
                whole.add(o);
            }
        }
        return whole;
    }

    int order(int r) {
        if (noRow(r)) {
            return BAD;
        }
        if (now.shops.isEmpty()) {
            return STATE;
        }
        List<List<Integer>> whole = wholeOrders();
        if (whole.isEmpty()) {
            return NONE;
        }
        rowOf(r, whole.get(0));
        return whole.get(0).size();
    }

    int ways() {
        if (now.shops.isEmpty()) {
            return STATE;
        }
        upper = wholeOrders().size();
        lower = 1;
        return 1;
    }

    int most() {
        if (now.shops.isEmpty()) {
            return STATE;
        }
        int most = 0;
        int least = 0;
        for (List<Integer> o : now.orders()) {
            int set = bits(o);
            if (o.size() > most || o.size() == most && set < least) {
                most = o.size();
                least = set;
            }
        }
        asked = least;
        return most;
    }

    int least() {
        if (now.shops.isEmpty()) {
            return STATE;
        }
        for (int v = 0; v <= 99; v++) {
            for (int s = 0; s < now.shops.size(); s++) {
                Time t = now.twin();
                t.shops.get(s)[1] += v;
                if (t.allCan()) {
                    asked = s;
                    return v;
                }
            }
        }
        return NONE;
    }

    int free(int s, int r) {
        if (noShop(s) || noRow(r)) {
            return BAD;
        }
        List<Integer> best = null;
        for (List<Integer> o : now.orders()) {
            boolean frees = now.ticket(s) == null || o.contains(s);
            if (frees && (best == null || o.size() < best.size())) {
                best = o;
            }
        }
        if (best == null) {
            return NONE;
        }
        rowOf(r, best);
        return best.size();
    }

    int till() {
        if (now.shops.isEmpty()) {
            return STATE;
        }
        int till = NONE;
        Time t = now.twin();
        for (int w = 0; w <= 20; w++) {
            if (t.allCan()) {
                till = w;
            }
            for (int[] k : t.tickets) {
                k[3]++;
            }
        }
        return till;
    }

    int run(int r) {
        if (noRow(r)) {
            return BAD;
        }
        if (now.shops.isEmpty()) {
            return STATE;
        }
        if (rows[r] == null) {
            return find(1);
        }
        if (rows[r].length > 6) {
            return find(5);
        }
        for (int s : rows[r]) {
            if (noShop(s)) {
                return find(3);
            }
        }
        Time t = now.twin();
        int n = 0;
        asked = NONE;
        while (n < rows[r].length && t.redeem(rows[r][n])) {
            asked = t.shops.get(rows[r][n])[1];
            n++;
        }
        return n;
    }

    int shuts(int s) {
        if (noShop(s)) {
            return BAD;
        }
        boolean[] shut = new boolean[now.shops.size()];
        shut[s] = true;
        boolean more = true;
        while (more) {
            more = false;
            for (int[] k : now.tickets) {
                if (shut[k[1]] && !shut[k[0]]) {
                    shut[k[0]] = true;
                    more = true;
                }
                if (shut[k[0]] && !shut[k[1]] && now.due(k) > now.shops.get(k[1])[1]) {
                    shut[k[1]] = true;
                    more = true;
                }
            }
        }
        int set = 0;
        for (int other = 0; other < shut.length; other++) {
            set += shut[other] && other != s ? bit(other) : 0;
        }
        return set;
    }

    int missing(int r) {
        if (noRow(r)) {
            return BAD;
        }
        if (now.shops.isEmpty()) {
            return STATE;
        }
        if (rows[r] == null) {
            return find(1);
        }
        if (rows[r].length < 1 || rows[r].length > 6) {
            return find(5);
        }
        for (int set : rows[r]) {
            if (set < 0 || set >= bit(now.shops.size())) {
                return find(3);
            }
        }
        for (List<Integer> o : now.orders()) {
            boolean same = o.size() == rows[r].length;
            for (int i = 0; same && i < o.size(); i++) {
                same = bits(o.subList(0, i + 1)) == rows[r][i];
            }
            if (same) {
                return 1;
            }
        }
        return 0;
    }

    int through(int set) {
        for (int s = 0; s < 32; s++) {
            if ((set >>> s) % 2 != 0 && (noShop(s) || now.ticket(s) == null)) {
                return BAD;
            }
        }
        int n = 0;
        for (List<Integer> o : wholeOrders()) {
            boolean meets = false;
            for (int i = 0; i <= o.size(); i++) {
                meets |= bits(o.subList(0, i)) == set;
            }
            n += meets ? 1 : 0;
        }
        upper = n;
        lower = 1;
        return 1;
    }

    int odds(int p) {
        if (p < 0 || p > 12) {
            return BAD;
        }
        if (now.shops.isEmpty()) {
            return STATE;
        }
        BigInteger good = BigInteger.ZERO;
        int n = now.tickets.size();
        for (int lost = 0; lost < bit(n); lost++) {
            Time t = now.twin();
            BigInteger weight = BigInteger.ONE;
            for (int i = n - 1; i >= 0; i--) {
                boolean gone = lost / bit(i) % 2 == 1;
                weight = weight.multiply(BigInteger.valueOf(gone ? p : 12 - p));
                if (gone) {
                    t.tickets.remove(i);
                }
            }
            good = t.allCan() ? good.add(weight) : good;
        }
        BigInteger all = BigInteger.valueOf(12).pow(n);
        BigInteger g = good.gcd(all);
        upper = good.divide(g).longValueExact();
        lower = all.divide(g).longValueExact();
        return 1;
    }

    int lots(int n, int seed) {
        if (n < 1 || n > 20 || seed < 1 || seed > 2147483646) {
            return BAD;
        }
        if (now.shops.isEmpty()) {
            return STATE;
        }
        if (before.size() + n > 40) {
            return FULL;
        }
        BigInteger x = BigInteger.valueOf(seed);
        for (int i = 0; i < n; i++) {
            x = x.multiply(BigInteger.valueOf(48271)).mod(BigInteger.valueOf(2147483647));
            int it = x.intValueExact();
            int s = it % now.shops.size();
            int to = (it / 16) % now.shops.size();
            int loan = (it / 256) % 9 + 1;
            if (now.ticket(s) != null) {
                if (redeem(s) < 0) {
                    week();
                }
            } else if (pawn(s, to, loan) < 0) {
                give(s, 1);
            }
        }
        return now.tickets.size();
    }

    int asked() {
        return asked;
    }

    long upper() {
        return upper;
    }

    long lower() {
        return lower;
    }

    int count(int what) {
        int n = 0;
        switch (what) {
            case 0:
                return now.shops.size();
            case 1:
                return now.tickets.size();
            case 2:
                return before.size();
            case 3:
                for (int[] s : now.shops) {
                    n += s[1];
                }
                return n;
            case 4:
                for (int[] k : now.tickets) {
                    n += now.due(k);
                }
                return n;
            case 5:
                for (int[] s : now.shops) {
                    n += s[0] == 2 || s[0] == 5 ? 1 : 0;
                }
                return n;
            case 6:
                for (int[] r : rows) {
                    n += r == null ? 0 : 1;
                }
                return n;
            case 7:
                for (byte[] t : texts) {
                    n += t == null ? 0 : 1;
                }
                return n;
            case 8:
                for (Time t : keptNow) {
                    n += t == null ? 0 : 1;
                }
                return n;
            default:
                return BAD;
        }
    }

    int finding() {
        return finding;
    }

    int findings(int f) {
        return f < 1 || f > 5 ? BAD : findings[f];
    }

    long digest() {
        List<Integer> all = new ArrayList<>();
        for (int what = 0; what <= 8; what++) {
            all.add(count(what));
        }
        for (int s = 0; s < now.shops.size(); s++) {
            for (int what = 0; what <= 6; what++) {
                all.add(shopTells(s, what));
            }
        }
        for (int k = 0; k < 3; k++) {
            all.add(keptNow[k] == null ? -1 : keptBefore.get(k).size());
        }
        for (int[] r : rows) {
            all.add(r == null ? -1 : r.length);
            for (int i = 0; r != null && i < r.length; i++) {
                all.add(r[i]);
            }
        }
        for (byte[] t : texts) {
            all.add(t == null ? -1 : t.length);
            for (int i = 0; t != null && i < t.length; i++) {
                all.add((int) t[i]);
            }
        }
        long h = 17;
        for (int v : all) {
            h = 31 * h + v;
        }
        return h;
    }
}
