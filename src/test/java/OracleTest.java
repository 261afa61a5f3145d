import java.lang.reflect.Method;
import java.util.ArrayList;
import java.util.Arrays;
import java.util.List;
import java.util.Random;

/**
 * Runs of 512 calls (no more are promised) by fixed seeds: each answer of PawnLane is the one of SlowLane.
 * Every second call asks what is told, in turn; at the end all of it is.
 */
public final class OracleTest {
    private static final int RUNS = 500;
    private static final int CALLS = 512;
    private static final int LONGEST_STEP = 140;
    private static final int[] ODD = {-1, 0, 1, 2, 6, 7, 40, 41, 60, 61, 63, 64, 100, Integer.MAX_VALUE, Integer.MIN_VALUE};
    private static final String[] OFTEN = {
        "redeem", "pawn", "week", "give", "lots", "order", "ways", "most", "least", "free", "till", "run", "shuts",
        "missing", "through", "odds", "deep", "rings", "mark", "chalk", "undo", "keep", "on"};

    private static final String[] TOLD = {"digest", "asked", "upper", "lower", "finding"};
    private static final int TELLS = TOLD.length;

    private static final Due due = new Due("OracleTest");

    private final Random random;
    private final PawnLane quick = new PawnLane();
    private final SlowLane slow = new SlowLane();
    private final List<Method> calls = new ArrayList<>();
    private final int run;
    private int made = 0;

    private OracleTest(int run) {
        this.run = run;
        this.random = new Random(run);
        for (Method m : PawnLane.class.getDeclaredMethods()) {
            if (java.lang.reflect.Modifier.isPublic(m.getModifiers())) {
                calls.add(m);
            }
        }
        calls.sort((a, b) -> a.getName().compareTo(b.getName()));
    }

    public static void main(String[] args) throws ReflectiveOperationException {
        for (int run = 0; run < RUNS; run++) {
            new OracleTest(run).compare();
        }
        due.end();
    }

    private void compare() throws ReflectiveOperationException {
        while (made < CALLS - LONGEST_STEP) {
            if (random.nextInt(60) == 0 || made == 0) {
                writeLane();
            } else if (random.nextInt(12) == 0) {
                laySets();
            }
            Method m = pick();
            call(m, arguments(m));
        }
        while (made < CALLS - TELLS - 1) {
            Method m = pick();
            call(m, arguments(m));
        }
        for (int i = 0; i < TELLS; i++) {
            tell(i);
        }
    }

    private Method pick() {
        String wanted = random.nextInt(3) == 0 ? null : OFTEN[random.nextInt(OFTEN.length)];
        for (Method m : calls) {
            if (m.getName().equals(wanted)) {
                return m;
            }
        }
        return calls.get(random.nextInt(calls.size()));
    }

    private Object[] arguments(Method m) {
        Object[] args = new Object[m.getParameterCount()];
        for (int i = 0; i < args.length; i++) {
            args[i] = random.nextInt(25) == 0 ? ODD[random.nextInt(ODD.length)] : fitting(m.getName(), i);
        }
        return args;
    }

    /** A number that mostly fits, so that more is reached than refusals. */
    private int fitting(String name, int i) {
        switch (name) {
            case "row":
                return random.nextInt(i == 0 ? 6 : 9);
            case "lane":
            case "fault":
                return random.nextInt(4);
            case "text":
                return random.nextInt(i == 0 ? 3 : 30);
            case "put":
                return i == 2 ? "suhwavt 0123".charAt(random.nextInt(12)) : random.nextInt(i == 0 ? 3 : 12);
            case "give":
                return i == 0 ? random.nextInt(6) : 1 + random.nextInt(random.nextInt(8) == 0 ? 99 : 9);
            case "pawn":
                return i == 2 ? 1 + random.nextInt(9) : random.nextInt(6);
            case "undo":
                return random.nextInt(41);
            case "lots":
                return i == 0 ? 1 + random.nextInt(20) : 1 + random.nextInt(Integer.MAX_VALUE - 1);
            case "odds":
                return random.nextInt(13);
            case "through":
                return random.nextBoolean() ? random.nextInt(64) : random.nextInt(8);
            case "keep":
            case "on":
                return random.nextInt(3);
            default:
                return random.nextInt(7);
        }
    }

    private void writeLane() throws ReflectiveOperationException {
        StringBuilder text = new StringBuilder();
        int shops = 2 + random.nextInt(5);
        int rich = 1 + random.nextInt(10);
        for (int s = 0; s < shops; s++) {
            text.append("suhwav".charAt(random.nextInt(6))).append(random.nextInt(rich)).append(random.nextInt(10));
            text.append(random.nextInt(3) == 0 ? " " : "");
        }
        int loans = 1 + random.nextInt(9);
        for (int s = 0; s < shops; s++) {
            int to = random.nextInt(shops);
            if (to != s && random.nextInt(6) > 0) {
                text.append('t').append(s).append(to).append(1 + random.nextInt(loans));
            }
        }
        if (random.nextInt(6) == 0) {
            text.setCharAt(random.nextInt(text.length()), "suhwavt 0123456789x".charAt(random.nextInt(19)));
        }
        call(named("text"), 3, text.length());
        for (int i = 0; i < text.length(); i++) {
            call(named("put"), 3, i, (int) text.charAt(i));
        }
        call(named("fault"), 3);
        call(named("lane"), 3);
    }

    /** A ROW of sets that grow one by one, or of SHOPS, as missing() and run() want them. */
    private void laySets() throws ReflectiveOperationException {
        int n = 1 + random.nextInt(6);
        boolean sets = random.nextBoolean();
        int r = random.nextInt(6);
        call(named("row"), r, n);
        int set = 0;
        for (int i = 0; i < n; i++) {
            set |= 1 << random.nextInt(6);
            call(named("lay"), r, i, sets ? set : random.nextInt(6));
        }
        call(named(sets ? "missing" : "run"), r);
    }

    private Method named(String name) {
        for (Method m : calls) {
            if (m.getName().equals(name)) {
                return m;
            }
        }
        throw new IllegalStateException(name);
    }

    private void call(Method m, Object... args) throws ReflectiveOperationException {
        answer(m, args);
        tell(made % TELLS);
    }

    private void tell(int which) throws ReflectiveOperationException {
        answer(named(TOLD[which]));
    }

    private void answer(Method m, Object... args) throws ReflectiveOperationException {
        Method other = SlowLane.class.getDeclaredMethod(m.getName(), m.getParameterTypes());
        long got = ((Number) m.invoke(quick, args)).longValue();
        long want = ((Number) other.invoke(slow, args)).longValue();
        made++;
        due.is("run " + run + " call " + made + " " + m.getName() + Arrays.toString(args), got, want);
    }
}
