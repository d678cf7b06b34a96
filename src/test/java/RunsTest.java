import java.lang.reflect.Method;
import java.util.ArrayDeque;
import java.util.Arrays;
import java.util.Deque;
import java.util.HashMap;
import java.util.Map;
import java.util.Random;

/** Whole runs of 512 calls in any order, on SailCargo and on Plain: every answer is the same. */
public final class RunsTest {
    private static final int RUNS = 240;
    private static final int CALLS = 512;
    // Each run is mostly about one of these, so that its rows fill up and its calls meet one another.
    private static final String[][] THEMES = {
        {"winds", "weight", "sails", "engine", "luck", "choice", "promise"},
        {"load", "apart", "apart", "stow"},
        {"berths", "slot", "slot", "slot", "of", "free"},
        {"feed", "feed", "end", "contract", "fault", "due", "due"},
        {"load", "leg", "aboard", "aboard", "part", "part", "smoke"}};
    private static final String[] ALL = {"winds", "weight", "sails", "engine", "luck", "choice", "promise", "load",
        "apart", "stow", "berths", "slot", "of", "free", "feed", "end", "contract", "fault", "due", "leg", "aboard",
        "part", "smoke", "count", "status"};
    private static final String[] CLAUSES = {"pay 5", "pay 10000", "per ton 17", "late 10000 behind 0", "late 3behind 9",
        "early 3ahead 99", "smoke 2 below 8", "smoke 700 below 10000", "most 1", "most 900", "least 10", "least 0", "  ",
        "", "pay 10001", "per 5", "late 3 ahead 4", "Pay 1", "pay\t1"};

    private record Call(String name, Object[] args) {
    }

    public static void main(String[] args) throws ReflectiveOperationException {
        Map<String, Method> real = methods(SailCargo.class);
        Map<String, Method> plain = methods(Plain.class);
        for (int seed = 0; seed < RUNS; seed++) {
            run(seed, real, plain);
        }
        Check.finish();
    }

    private static Map<String, Method> methods(Class<?> type) {
        Map<String, Method> all = new HashMap<>();
        for (Method method : type.getDeclaredMethods()) {
            if (Arrays.asList(ALL).contains(method.getName())) {
                all.put(method.getName(), method);
            }
        }
        Check.same("calls of " + type, all.size(), ALL.length);
        return all;
    }

    private static void run(int seed, Map<String, Method> real, Map<String, Method> plain)
            throws ReflectiveOperationException {
        Random random = new Random(seed);
        SailCargo x = new SailCargo();
        Plain y = new Plain();
        Deque<Call> coming = new ArrayDeque<>();
        for (int number = 1; number <= CALLS; number++) {
            if (coming.isEmpty()) {
                addCalls(coming, seed, random, y);
            }
            Call call = coming.remove();
            Object want = plain.get(call.name).invoke(y, call.args);
            Object got = real.get(call.name).invoke(x, call.args);
            String what = "run " + seed + ", call " + number + ": " + call.name + Arrays.toString(call.args);
            Check.same(what, ((Number) got).longValue(), ((Number) want).longValue());
        }
    }

    private static void addCalls(Deque<Call> coming, int seed, Random random, Plain y) {
        String[] from = random.nextInt(4) > 0 ? THEMES[seed % THEMES.length] : ALL;
        String name = from[random.nextInt(from.length)];
        if (!name.equals("feed")) {
            coming.add(new Call(name, args(name, random, y)));
            return;
        }
        String text = text(random);
        int end = y.count(5) + text.length();
        for (int i = 0; i <= text.length(); i += 20) {
            coming.add(new Call(name, Arrays.stream(Check.twenty(text, i, ' ')).boxed().toArray()));
        }
        if (random.nextInt(5) > 0) {
            coming.add(new Call("end", row(end)));
            coming.add(new Call("contract", row()));
            coming.add(new Call("fault", row()));
            coming.add(new Call("due", args("due", random, y)));
        }
    }

    private static Object[] args(String name, Random random, Plain y) {
        int loads = y.count(1);
        int slots = y.count(2);
        int legs = y.count(4);
        switch (name) {
            case "winds": return winds(random);
            case "weight": return row(pick(random, 0, 3), day(random));
            case "sails": return row(pick(random, 0, 3), pick(random, 0, 20));
            case "engine": return row(pick(random, 0, 20));
            case "luck": return row(miles(random), pick(random, 0, 12), pick(random, 0, 12), day(random),
                    pick(random, 0, 1));
            case "choice": return row(miles(random), pick(random, 1, 12), pick(random, 0, 12),
                    pick(random, 0, 3), day(random));
            case "promise": return row(miles(random), pick(random, 0, 12), day(random), pick(random, 1, 16));
            case "load": return row(pick(random, 1, random.nextBoolean() ? 200 : 9), pick(random, 0, 10000));
            case "apart": return new Object[] {pick(random, 0, loads - 1), pick(random, 0, loads - 1),
                random.nextInt(3) > 0};
            case "stow": return row(pick(random, 0, 1000), pick(random, 0, 2));
            case "berths": return row(pick(random, 0, 5) / 3, pick(random, 1, 3));
            case "slot": return row(pick(random, 0, 5) / 3, pick(random, 0, random.nextBoolean() ? 400 : 40),
                    pick(random, 1, 30));
            case "of": return row(pick(random, 0, slots - 1), pick(random, 0, 3));
            case "free": return row(pick(random, 0, slots - 1));
            case "end": return row(pick(random, Math.max(0, y.count(5) - 9), y.count(5)));
            case "due": return row(pick(random, 0, 10000), pick(random, 0, 10000), pick(random, 0, 1000000));
            case "leg": return row(pick(random, 0, random.nextBoolean() ? 100000 : 9));
            case "aboard": return row(pick(random, 0, loads - 1), pick(random, 0, legs / 2), pick(random, 0, legs - 1));
            case "part": return row(pick(random, 0, loads - 1), pick(random, 0, legs - 1));
            case "smoke": return row(pick(random, -1, loads - 1));
            case "count": return row(pick(random, 0, 6));
            default: return new Object[0];
        }
    }

    private static Object[] row(Object... numbers) {
        return numbers;
    }

    /** Four that sum to 16; at times one of them is another number, and the sum with it or not. */
    private static Object[] winds(Random random) {
        int a = random.nextInt(17);
        int b = random.nextInt(17 - a);
        int c = random.nextInt(17 - a - b);
        int d = 16 - a - b - c;
        if (random.nextInt(4) == 0) {
            a = pick(random, 0, 16);
            d = random.nextBoolean() ? 16 - a - b - c : d;
        }
        return row(a, b, c, d, day(random));
    }

    /** As often as not so few that the passage can be made. */
    private static int miles(Random random) {
        return pick(random, 0, random.nextBoolean() ? 120 : 30);
    }

    private static int day(Random random) {
        return random.nextInt(9) == 0 ? pick(random, 0, 1000) : random.nextInt(4);
    }

    /** Mostly a number that can be, its two ends more often than others; at times one that can't. */
    private static int pick(Random random, int low, int high) {
        int kind = random.nextInt(60);
        if (kind < 4) {
            return new int[] {low - 1, high + 1, Integer.MIN_VALUE, Integer.MAX_VALUE}[kind];
        }
        if (kind < 12 || high <= low) {
            return kind % 2 == 0 ? low : high;
        }
        return low + random.nextInt(high - low + 1);
    }

    /** A row of CLAUSES, most of them fine, at times with a byte too many. */
    private static String text(Random random) {
        StringBuilder all = new StringBuilder();
        int good = random.nextInt(3) > 0 ? CLAUSES.length - 7 : CLAUSES.length;
        for (int i = random.nextInt(9); i >= 0; i--) {
            all.append(CLAUSES[random.nextInt(good)]).append(i > 0 ? ";" : "");
        }
        if (random.nextInt(4) == 0) {
            all.insert(random.nextInt(all.length() + 1), (char) random.nextInt(256));
        }
        return all.toString();
    }
}
