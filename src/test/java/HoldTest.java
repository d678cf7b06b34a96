import java.util.Random;

/** Promises 9 to 11: load, apart, stow. */
public final class HoldTest {
    public static void main(String[] args) {
        loads();
        apart();
        stowBounds();
        alikeOnes();
        againstEverySet();
        Check.finish();
    }

    private static void loads() {
        SailCargo x = new SailCargo();
        int[][] wrong = {{0, 5}, {201, 5}, {5, -1}, {5, 10001}, {Integer.MIN_VALUE, 0}};
        for (int[] w : wrong) {
            Check.same("load wrong", x.load(w[0], w[1]), -1);
            Check.same("status", x.status(), -1);
        }
        for (int i = 0; i < 12; i++) {
            Check.same("load " + i, x.load(i % 2 == 0 ? 1 : 200, i % 2 == 0 ? 0 : 10000), i);
            Check.same("status", x.status(), 0);
        }
        Check.same("load 12", x.load(1, 1), -5);
        Check.same("status", x.status(), -5);
        Check.same("-1 ahead of -5", x.load(0, 1), -1);
        Check.same("count", x.count(1), 12);
    }

    private static void apart() {
        SailCargo x = new SailCargo();
        x.load(1, 5);
        x.load(1, 6);
        x.load(1, 7);
        int[][] none = {{-1, 0}, {0, -1}, {3, 0}, {0, 3}, {3, 3}, {-1, -1}, {12, 0}, {0, Integer.MAX_VALUE}};
        for (int[] n : none) {
            Check.same("apart none", x.apart(n[0], n[1], true), -2);
            Check.same("status", x.status(), -2);
        }
        Check.same("apart itself", x.apart(2, 2, true), -3);
        Check.same("apart itself", x.apart(2, 2, false), -3);
        Check.same("status", x.status(), -3);
        Check.same("all", x.stow(10, 0), 7);
        Check.same("apart", x.apart(2, 0, true), 0);
        Check.same("status", x.status(), 0);
        Check.same("apart again", x.apart(2, 0, true), 0);
        Check.same("stow", x.stow(10, 0), 6);
        Check.same("stow", x.stow(10, 2), 13);
        Check.same("not any more, told the other way", x.apart(0, 2, false), 0);
        Check.same("stow", x.stow(10, 0), 7);
        Check.same("not, and was not", x.apart(0, 1, false), 0);
        Check.same("stow", x.stow(10, 0), 7);
    }

    private static void stowBounds() {
        SailCargo x = new SailCargo();
        x.load(200, 9);
        Check.same("tons -1", x.stow(-1, 0), -1);
        Check.same("tons 1001", x.stow(1001, 0), -1);
        Check.same("what -1", x.stow(5, -1), -1);
        Check.same("what 3", x.stow(5, 3), -1);
        Check.same("status is not of stow", x.status(), 0);
        Check.same("no tons", x.stow(0, 0), 0);
        Check.same("no tons", x.stow(0, 1), 0);
        Check.same("no tons", x.stow(0, 2), 0);
        Check.same("one ton too few", x.stow(199, 0), 0);
        Check.same("just so many", x.stow(200, 0), 1);
        Check.same("tons", x.stow(1000, 1), 200);
        Check.same("worth", x.stow(1000, 2), 9);
    }

    private static void alikeOnes() {
        SailCargo x = new SailCargo();
        x.load(5, 0);
        Check.same("no worth, so no tons", x.stow(1000, 0), 0);
        x.load(3, 10);
        x.load(2, 10);
        Check.same("fewest tons", x.stow(3, 0), 4);
        x.load(2, 10);
        Check.same("lowest bits", x.stow(3, 0), 4);
        // Bits 0110 and 1001 alike in worth and tons: the lower number.
        SailCargo y = new SailCargo();
        y.load(1, 1);
        y.load(2, 2);
        y.load(3, 3);
        y.load(4, 4);
        Check.same("lowest bits", y.stow(5, 0), 6);
    }

    private static void againstEverySet() {
        Random random = new Random(11);
        for (int round = 0; round < 40; round++) {
            SailCargo x = new SailCargo();
            int loads = round < 5 ? 12 : 1 + random.nextInt(12);
            int[] tons = new int[loads];
            int[] worth = new int[loads];
            boolean[][] apart = new boolean[loads][loads];
            for (int i = 0; i < loads; i++) {
                tons[i] = 1 + random.nextInt(round % 2 == 0 ? 4 : 200);
                worth[i] = random.nextInt(round % 2 == 0 ? 4 : 10001);
                x.load(tons[i], worth[i]);
            }
            for (int i = 0; i < loads && loads > 1; i++) {
                int a = random.nextInt(loads);
                int b = (a + 1 + random.nextInt(loads - 1)) % loads;
                boolean is = random.nextInt(3) > 0;
                apart[a][b] = is;
                apart[b][a] = is;
                x.apart(a, b, is);
            }
            int room = random.nextInt(round % 2 == 0 ? 20 : 1001);
            int[] best = best(tons, worth, apart, room);
            for (int what = 0; what < 3; what++) {
                Check.same("stow " + what, x.stow(room, what), best[what]);
            }
        }
    }

    private static int[] best(int[] tons, int[] worth, boolean[][] apart, int room) {
        int[] best = {0, 0, 0};
        for (int bits = 0; bits < 1 << tons.length; bits++) {
            int allTons = 0;
            int allWorth = 0;
            boolean fits = true;
            for (int i = 0; i < tons.length; i++) {
                if ((bits >> i & 1) == 1) {
                    allTons += tons[i];
                    allWorth += worth[i];
                    for (int j = 0; j < i; j++) {
                        fits &= (bits >> j & 1) == 0 || !apart[i][j];
                    }
                }
            }
            if (fits && allTons <= room
                    && (allWorth > best[2] || allWorth == best[2] && allTons < best[1])) {
                best = new int[] {bits, allTons, allWorth};
            }
        }
        return best;
    }
}
