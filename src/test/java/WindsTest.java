/** Promises 1 to 5: a new object, winds, weight, sails, engine. */
public final class WindsTest {
    public static void main(String[] args) {
        newObject();
        toldLastCounts();
        wrongWeights();
        fortyAtMost();
        sails();
        engine();
        Check.finish();
    }

    private static void newObject() {
        SailCargo x = new SailCargo();
        for (int what = 0; what <= 6; what++) {
            Check.same("new count " + what, x.count(what), 0);
        }
        Check.same("new weight", x.weight(3, 0), 4);
        Check.same("new status", x.status(), 0);
        Check.same("new fault", x.fault(), -1);
        Check.same("new due", x.due(10, 10, 10), 0);
        Check.same("new stow", x.stow(1000, 0), 0);
        Check.same("new smoke", x.smoke(0), -2);
        Check.same("new own smoke", x.smoke(SailCargo.NONE), 0);
        Check.same("new of", x.of(0, 0), -1);
        Check.same("new engine", x.engine(3), 0);
        Check.same("new berths", x.berths(5, 1), 1);
        Check.same("NONE", SailCargo.NONE, -1);
    }

    private static void toldLastCounts() {
        SailCargo x = new SailCargo();
        Check.same("winds", x.winds(1, 2, 3, 10, 100), 1);
        Check.same("winds", x.winds(0, 0, 0, 16, 50), 2);
        Check.same("winds", x.winds(16, 0, 0, 0, 1000), 3);
        int[][] due = {{0, 4, 4, 4, 4}, {49, 4, 4, 4, 4}, {50, 0, 0, 0, 16}, {99, 0, 0, 0, 16},
            {100, 0, 0, 0, 16}, {999, 0, 0, 0, 16}, {1000, 16, 0, 0, 0}};
        for (int[] row : due) {
            for (int wind = 0; wind < 4; wind++) {
                Check.same("weight " + wind + " on " + row[0], x.weight(wind, row[0]), row[wind + 1]);
            }
        }
        x.winds(1, 2, 3, 10, 0);
        for (int wind = 0; wind < 4; wind++) {
            Check.same("weight told last", x.weight(wind, 1000), new int[] {1, 2, 3, 10}[wind]);
        }
        Check.same("weight wind -1", x.weight(-1, 0), -1);
        Check.same("weight wind 4", x.weight(4, 0), -1);
        Check.same("weight day -1", x.weight(0, -1), -1);
        Check.same("weight day 1001", x.weight(0, 1001), -1);
    }

    private static void wrongWeights() {
        int big = Integer.MAX_VALUE;
        int[][] wrong = {{4, 4, 4, 3, 0}, {4, 4, 4, 5, 0}, {17, -1, 0, 0, 0}, {-1, 17, 0, 0, 0},
            {0, 0, -1, 17, 0}, {0, 0, 17, -1, 0}, {8, 9, -1, 0, 0}, {8, 9, 0, -1, 0}, {-1, 9, 8, 0, 0},
            {9, -1, 8, 0, 0}, {big, big, 18, 0, 0}, {4, 4, 4, 4, -1}, {4, 4, 4, 4, 1001}};
        SailCargo x = new SailCargo();
        for (int[] w : wrong) {
            Check.same("winds wrong", x.winds(w[0], w[1], w[2], w[3], w[4]), -1);
            Check.same("status", x.status(), -1);
        }
        Check.same("none told", x.count(0), 0);
        Check.same("winds edge", x.winds(0, 16, 0, 0, 0), 1);
        Check.same("winds edge", x.winds(0, 0, 16, 0, 1000), 2);
        Check.same("status", x.status(), 0);
    }

    private static void fortyAtMost() {
        SailCargo x = new SailCargo();
        for (int i = 1; i <= 40; i++) {
            Check.same("winds " + i, x.winds(i % 16, 16 - i % 16, 0, 0, i), i);
        }
        Check.same("winds 41", x.winds(0, 0, 0, 16, 0), -5);
        Check.same("status", x.status(), -5);
        Check.same("-1 ahead of -5", x.winds(0, 0, 0, 15, 0), -1);
        Check.same("count", x.count(0), 40);
        Check.same("weight", x.weight(0, 1000), 40 % 16);
        Check.same("weight", x.weight(0, 39), 39 % 16);
        Check.same("weight", x.weight(0, 0), 4);
    }

    private static void sails() {
        SailCargo x = new SailCargo();
        int[][] wrong = {{-1, 5}, {4, 5}, {0, -1}, {0, 21}, {Integer.MIN_VALUE, Integer.MAX_VALUE}};
        for (int[] w : wrong) {
            Check.same("sails wrong", x.sails(w[0], w[1]), -1);
            Check.same("status", x.status(), -1);
        }
        x.winds(0, 0, 0, 16, 0);
        Check.same("0 at first", x.luck(1, 12, 0, 0, 0), 0);
        Check.same("sails", x.sails(3, 20), 0);
        Check.same("status", x.status(), 0);
        Check.same("luck", x.luck(20, 1, 0, 0, 0), 16);
        Check.same("luck", x.luck(21, 1, 0, 0, 0), 0);
        x.sails(3, 21);
        Check.same("a refused one changes nothing", x.luck(20, 1, 0, 0, 0), 16);
        Check.same("sails", x.sails(3, 0), 0);
        Check.same("luck", x.luck(20, 1, 0, 0, 0), 0);
    }

    private static void engine() {
        SailCargo x = new SailCargo();
        Check.same("engine", x.engine(20), 0);
        Check.same("engine -1", x.engine(-1), -1);
        Check.same("status", x.status(), -1);
        Check.same("engine 21", x.engine(21), -1);
        Check.same("luck", x.luck(20, 1, 1, 0, 0), 16);
        Check.same("engine", x.engine(7), 20);
        Check.same("status", x.status(), 0);
        Check.same("luck", x.luck(20, 1, 1, 0, 0), 0);
        Check.same("engine", x.engine(0), 7);
        Check.same("engine", x.engine(0), 0);
    }
}
