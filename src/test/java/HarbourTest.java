import java.util.Arrays;
import java.util.Random;

/** Promises 12 to 15: berths, slot, of, free. */
public final class HarbourTest {
    public static void main(String[] args) {
        berths();
        slotBounds();
        order();
        sixtyAtMost();
        of();
        againstDays();
        Check.finish();
    }

    private static void berths() {
        SailCargo x = new SailCargo();
        Check.same("many 0", x.berths(0, 0), -1);
        Check.same("many 4", x.berths(0, 4), -1);
        Check.same("-1 ahead of -2", x.berths(6, 0), -1);
        Check.same("status", x.status(), -1);
        Check.same("port 6", x.berths(6, 1), -2);
        Check.same("port -1", x.berths(-1, 1), -2);
        Check.same("status", x.status(), -2);
        for (int port = 0; port < 6; port++) {
            Check.same("1 at first", x.berths(port, 3), 1);
        }
        Check.same("what they were", x.berths(5, 2), 3);
        Check.same("what they were", x.berths(5, 3), 2);
        for (int i = 0; i < 3; i++) {
            x.slot(5, 7, 1);
            Check.same("BERTH", x.of(i, 1), i);
        }
        Check.same("slot in 2", x.berths(5, 2), -3);
        Check.same("status", x.status(), -3);
        Check.same("all the same", x.berths(5, 3), 3);
        Check.same("another PORT's", x.berths(4, 1), 3);
        x.free(2);
        Check.same("slot in 1", x.berths(5, 1), -3);
        Check.same("slot given up", x.berths(5, 2), 3);
        Check.same("status", x.status(), 0);
    }

    private static void slotBounds() {
        SailCargo x = new SailCargo();
        int[][] wrong = {{0, -1, 1}, {0, 401, 1}, {0, 0, 0}, {0, 0, 31}, {6, 401, 1}, {6, 0, 0},
            {0, Integer.MAX_VALUE, Integer.MAX_VALUE}};
        for (int[] w : wrong) {
            Check.same("slot wrong", x.slot(w[0], w[1], w[2]), -1);
            Check.same("status", x.status(), -1);
        }
        Check.same("port 6", x.slot(6, 0, 1), -2);
        Check.same("port -1", x.slot(-1, 0, 1), -2);
        Check.same("-2 ahead of -3", x.slot(6, 400, 2), -2);
        Check.same("status", x.status(), -2);
        Check.same("beyond day 400", x.slot(0, 400, 2), -3);
        Check.same("beyond day 400", x.slot(0, 372, 30), -3);
        Check.same("status", x.status(), -3);
        Check.same("up to day 400", x.slot(0, 371, 30), 0);
        Check.same("status", x.status(), 0);
        Check.same("last", x.of(0, 3), 400);
        Check.same("none left", x.slot(0, 371, 1), -3);
        Check.same("another PORT", x.slot(1, 400, 1), 1);
        Check.same("first", x.of(1, 2), 400);
        Check.same("last", x.of(1, 3), 400);
        Check.same("day 0", x.slot(0, 0, 30), 2);
        Check.same("last", x.of(2, 3), 29);
    }

    private static void order() {
        SailCargo x = new SailCargo();
        x.berths(2, 2);
        place(x, x.slot(2, 5, 5), 2, 0, 5, 9);
        place(x, x.slot(2, 5, 3), 2, 1, 5, 7);
        place(x, x.slot(2, 5, 4), 2, 1, 8, 11);
        place(x, x.slot(2, 5, 4), 2, 0, 10, 13);
        place(x, x.slot(2, 0, 6), 2, 1, 12, 17);
        place(x, x.slot(2, 0, 5), 2, 0, 0, 4);
        place(x, x.slot(2, 1, 1), 2, 1, 1, 1);
        Check.same("free", x.free(0), 0);
        place(x, x.slot(2, 0, 5), 2, 0, 5, 9);
        Check.same("told", x.count(2), 8);
        Check.same("not given up", x.count(6), 7);
    }

    private static void place(SailCargo x, int slot, int port, int berth, int first, int last) {
        Check.same("PORT", x.of(slot, 0), port);
        Check.same("BERTH", x.of(slot, 1), berth);
        Check.same("first", x.of(slot, 2), first);
        Check.same("last", x.of(slot, 3), last);
    }

    private static void sixtyAtMost() {
        SailCargo x = new SailCargo();
        for (int i = 0; i < 60; i++) {
            Check.same("slot " + i, x.slot(i % 6, 0, 30), i);
        }
        Check.same("slot 60", x.slot(0, 0, 1), -5);
        Check.same("status", x.status(), -5);
        Check.same("-3 ahead of -5", x.slot(0, 399, 3), -3);
        Check.same("-2 ahead of -5", x.slot(6, 0, 1), -2);
        Check.same("-1 ahead of -5", x.slot(0, 0, 0), -1);
        Check.same("free", x.free(59), 0);
        Check.same("its number is not given again", x.slot(0, 0, 1), -5);
        Check.same("told", x.count(2), 60);
        Check.same("not given up", x.count(6), 59);
    }

    private static void of() {
        SailCargo x = new SailCargo();
        x.slot(3, 100, 10);
        Check.same("what -1", x.of(0, -1), -1);
        Check.same("what 4", x.of(0, 4), -1);
        Check.same("slot 1", x.of(1, 0), -1);
        Check.same("slot -1", x.of(-1, 0), -1);
        Check.same("slot 60", x.of(60, 0), -1);
        place(x, 0, 3, 0, 100, 109);
        Check.same("free 1", x.free(1), -2);
        Check.same("free -1", x.free(-1), -2);
        Check.same("free 60", x.free(60), -2);
        Check.same("status", x.status(), -2);
        Check.same("free", x.free(0), 0);
        Check.same("status", x.status(), 0);
        Check.same("free again", x.free(0), -2);
        for (int what = 0; what < 4; what++) {
            Check.same("given up", x.of(0, what), -1);
        }
        Check.same("the next number", x.slot(3, 100, 10), 1);
        place(x, 1, 3, 0, 100, 109);
    }

    private static void againstDays() {
        Random random = new Random(13);
        for (int round = 0; round < 30; round++) {
            SailCargo x = new SailCargo();
            boolean[][][] taken = new boolean[6][3][401];
            int[] berths = {1, 1, 1, 1, 1, 1};
            int told = 0;
            // Each of these makes five calls at most, and an object is good for 512.
            for (int call = 0; call < 100; call++) {
                int port = random.nextInt(2);
                if (random.nextInt(8) == 0) {
                    int many = 1 + random.nextInt(3);
                    boolean stays = isTaken(taken[port], many);
                    Check.same("berths", x.berths(port, many), stays ? -3 : berths[port]);
                    berths[port] = stays ? berths[port] : many;
                } else if (random.nextInt(4) == 0 && told > 0) {
                    giveUp(x, random.nextInt(told), taken);
                } else {
                    told += ask(x, taken, berths, port, told, random);
                }
            }
        }
    }

    private static boolean isTaken(boolean[][] port, int from) {
        for (int berth = from; berth < 3; berth++) {
            for (boolean day : port[berth]) {
                if (day) {
                    return true;
                }
            }
        }
        return false;
    }

    private static void giveUp(SailCargo x, int slot, boolean[][][] taken) {
        int port = x.of(slot, 0);
        if (port == -1) {
            Check.same("free", x.free(slot), -2);
            return;
        }
        boolean[] days = taken[port][x.of(slot, 1)];
        Arrays.fill(days, x.of(slot, 2), x.of(slot, 3) + 1, false);
        Check.same("free", x.free(slot), 0);
    }

    private static int ask(SailCargo x, boolean[][][] taken, int[] berths, int port, int told, Random random) {
        int from = random.nextInt(4) == 0 ? 340 + random.nextInt(61) : random.nextInt(60);
        int days = 1 + random.nextInt(30);
        for (int first = from; first + days - 1 <= 400; first++) {
            for (int berth = 0; berth < berths[port]; berth++) {
                boolean open = true;
                for (int day = first; day < first + days; day++) {
                    open &= !taken[port][berth][day];
                }
                if (open) {
                    Check.same("slot", x.slot(port, from, days), told == 60 ? -5 : told);
                    if (told == 60) {
                        return 0;
                    }
                    place(x, told, port, berth, first, first + days - 1);
                    for (int day = first; day < first + days; day++) {
                        taken[port][berth][day] = true;
                    }
                    return 1;
                }
            }
        }
        Check.same("slot", x.slot(port, from, days), -3);
        return 0;
    }
}
