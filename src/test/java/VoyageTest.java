import java.util.Random;

/** Promises 21 to 24: leg, aboard, part, smoke. */
public final class VoyageTest {
    public static void main(String[] args) {
        legs();
        aboard();
        parts();
        againstDealing();
        Check.finish();
    }

    private static void legs() {
        SailCargo x = new SailCargo();
        Check.same("leg -1", x.leg(-1), -1);
        Check.same("leg 100001", x.leg(100001), -1);
        Check.same("status", x.status(), -1);
        for (int i = 0; i < 10; i++) {
            Check.same("leg " + i, x.leg(i % 2 == 0 ? 0 : 100000), i);
            Check.same("status", x.status(), 0);
        }
        Check.same("leg 10", x.leg(1), -5);
        Check.same("status", x.status(), -5);
        Check.same("-1 ahead of -5", x.leg(-1), -1);
        Check.same("count", x.count(4), 10);
        Check.same("own", x.smoke(-1), 500000);
    }

    private static void aboard() {
        SailCargo x = new SailCargo();
        x.load(10, 0);
        for (int i = 0; i < 4; i++) {
            x.leg(10 + i);
        }
        Check.same("the second ahead", x.aboard(0, 2, 1), -1);
        Check.same("-1 ahead of -2", x.aboard(5, 2, 1), -1);
        Check.same("-1 ahead of -2", x.aboard(0, 9, 8), -1);
        Check.same("status", x.status(), -1);
        int[][] none = {{1, 0, 0}, {-1, 0, 0}, {0, -1, 0}, {0, 0, 4}, {0, 4, 4}, {12, 0, 0}, {0, -1, -1}};
        for (int[] n : none) {
            Check.same("aboard none", x.aboard(n[0], n[1], n[2]), -2);
            Check.same("status", x.status(), -2);
        }
        Check.same("nowhere yet", x.smoke(0), 0);
        Check.same("own", x.smoke(-1), 46);
        Check.same("aboard", x.aboard(0, 0, 3), 0);
        Check.same("status", x.status(), 0);
        Check.same("everywhere", x.smoke(0), 46);
        Check.same("own", x.smoke(-1), 0);
        Check.same("aboard", x.aboard(0, 1, 2), 0);
        Check.same("on no others", x.smoke(0), 23);
        Check.same("own", x.smoke(-1), 23);
        x.aboard(0, 3, 2);
        Check.same("a refused one changes nothing", x.smoke(0), 23);
        x.leg(100);
        Check.same("a LEG told later", x.part(0, 4), 0);
        Check.same("own", x.smoke(-1), 123);
    }

    private static void parts() {
        SailCargo x = new SailCargo();
        for (int i = 0; i < 4; i++) {
            x.load(i == 3 ? 2 : 1, 0);
        }
        x.leg(8);
        x.leg(2);
        x.leg(100000);
        for (int i = 0; i < 4; i++) {
            x.aboard(i, 0, 2);
        }
        // 8 / 5: 1, 1, 1, 3 with rests 3, 3, 3, 1: two are left.
        row(x, 0, 2, 2, 1, 3);
        // 2 / 5: nothing, with rests 2, 2, 2, 4.
        row(x, 1, 1, 0, 0, 1);
        row(x, 2, 20000, 20000, 20000, 40000);
        Check.same("smoke", x.smoke(0), 20003);
        Check.same("smoke", x.smoke(3), 40004);
        x.aboard(0, 2, 2);
        row(x, 0, 0, 2, 2, 4);
        Check.same("part load 4", x.part(4, 0), -1);
        Check.same("part load -1", x.part(-1, 0), -1);
        Check.same("part leg 3", x.part(0, 3), -1);
        Check.same("part leg -1", x.part(0, -1), -1);
        Check.same("smoke 4", x.smoke(4), -2);
        Check.same("smoke -2", x.smoke(-2), -2);
        Check.same("smoke 12", x.smoke(12), -2);
        Check.same("status is not of these", x.status(), 0);
    }

    private static void row(SailCargo x, int leg, int... want) {
        for (int i = 0; i < want.length; i++) {
            Check.same("part of " + i + " in " + leg, x.part(i, leg), want[i]);
        }
    }

    private static void againstDealing() {
        Random random = new Random(19);
        for (int round = 0; round < 60; round++) {
            SailCargo x = new SailCargo();
            int loads = 1 + random.nextInt(12);
            int legs = 1 + random.nextInt(10);
            int[] tons = new int[loads];
            int[] smoke = new int[legs];
            boolean[][] aboard = new boolean[legs][loads];
            for (int i = 0; i < loads; i++) {
                tons[i] = 1 + random.nextInt(round % 2 == 0 ? 5 : 200);
                x.load(tons[i], 0);
            }
            for (int i = 0; i < legs; i++) {
                smoke[i] = random.nextInt(round % 2 == 0 ? 30 : 100001);
                x.leg(smoke[i]);
            }
            for (int i = 0; i < loads; i++) {
                int from = random.nextInt(legs);
                int to = from + random.nextInt(legs - from);
                if (random.nextInt(4) > 0) {
                    x.aboard(i, from, to);
                    for (int leg = from; leg <= to; leg++) {
                        aboard[leg][i] = true;
                    }
                }
            }
            compare(x, tons, smoke, aboard);
        }
    }

    private static void compare(SailCargo x, int[] tons, int[] smoke, boolean[][] aboard) {
        int[] sums = new int[tons.length];
        int own = 0;
        for (int leg = 0; leg < smoke.length; leg++) {
            int[] parts = deal(smoke[leg], tons, aboard[leg]);
            own += parts == null ? smoke[leg] : 0;
            for (int i = 0; i < tons.length; i++) {
                int want = parts == null ? 0 : parts[i];
                Check.same("part", x.part(i, leg), want);
                sums[i] += want;
            }
        }
        for (int i = 0; i < tons.length; i++) {
            Check.same("smoke", x.smoke(i), sums[i]);
        }
        Check.same("own", x.smoke(-1), own);
    }

    /** Deals what is left one by one, each to the greatest rest that has had none. */
    private static int[] deal(int smoke, int[] tons, boolean[] aboard) {
        long all = 0;
        for (int i = 0; i < tons.length; i++) {
            all += aboard[i] ? tons[i] : 0;
        }
        if (all == 0) {
            return null;
        }
        int[] parts = new int[tons.length];
        long[] rests = new long[tons.length];
        int left = smoke;
        for (int i = 0; i < tons.length; i++) {
            long share = aboard[i] ? (long) smoke * tons[i] : 0;
            parts[i] = (int) (share / all);
            rests[i] = aboard[i] ? share % all : -1;
            left -= parts[i];
        }
        while (left-- > 0) {
            int next = 0;
            for (int i = 1; i < tons.length; i++) {
                next = rests[i] > rests[next] ? i : next;
            }
            parts[next]++;
            rests[next] = -1;
        }
        return parts;
    }
}
