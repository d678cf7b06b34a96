import java.util.Random;

/** No call throws, for any arguments in any state; the same calls give the same answers. */
public final class AnyCallTest {
    private static final int[] EDGES = {Integer.MIN_VALUE, -2, -1, 0, 1, 2, 3, 4, 5, 6, 7, 10, 11, 12, 13, 16, 17, 20,
        21, 30, 31, 59, 60, 61, 120, 121, 200, 201, 400, 401, 1000, 1001, 10000, 10001, 100000, 100001, 1000000,
        1000001, 0x70617931, 0x3b202020, Integer.MAX_VALUE};

    public static void main(String[] args) {
        for (int seed = 0; seed < 200; seed++) {
            long first = run(seed);
            long second = run(seed);
            Check.same("run " + seed, first, second);
        }
        Check.finish();
    }

    private static long run(int seed) {
        Random random = new Random(seed);
        SailCargo x = new SailCargo();
        long all = 0;
        // Behind the 512th the answers are free, but no call may throw there either.
        for (int call = 0; call < 700; call++) {
            all = all * 31 + call(x, random.nextInt(25), random, seed % 4 + 1);
        }
        return all;
    }

    private static int any(Random random, int wildness) {
        return random.nextInt(20) < wildness ? EDGES[random.nextInt(EDGES.length)] : random.nextInt(5);
    }

    private static long call(SailCargo x, int which, Random random, int wildness) {
        int a = any(random, wildness);
        int b = any(random, wildness);
        int c = any(random, wildness);
        int d = any(random, wildness);
        int e = any(random, wildness);
        switch (which) {
            case 0: return x.winds(a, b, c, random.nextBoolean() ? 16 - a - b - c : d, e);
            case 1: return x.weight(a, b);
            case 2: return x.sails(a, b);
            case 3: return x.engine(a);
            case 4: return x.luck(a, b, c, d, e);
            case 5: return x.choice(a, b, c, d, e);
            case 6: return x.promise(a, b, c, d);
            case 7: return x.load(a, b);
            case 8: return x.apart(a, b, c > 1);
            case 9: return x.stow(a, b);
            case 10: return x.berths(a, b);
            case 11: return x.slot(a, b, c);
            case 12: return x.of(a, b);
            case 13: return x.free(a);
            case 14: return x.feed(a, b, c, d, e);
            case 15: return x.end(a);
            case 16: return x.contract();
            case 17: return x.fault();
            case 18: return x.due(a, b, c);
            case 19: return x.leg(a);
            case 20: return x.aboard(a, b, c);
            case 21: return x.part(a, b);
            case 22: return x.smoke(a);
            case 23: return x.count(a);
            default: return x.status();
        }
    }
}
