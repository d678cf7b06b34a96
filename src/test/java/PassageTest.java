import java.util.ArrayList;
import java.util.HashMap;
import java.util.List;
import java.util.Map;
import java.util.Random;

/** Promises 6 to 8: luck, choice, promise. */
public final class PassageTest {
    private static final int[] SPEED = new int[4];
    private static final int[] WEIGHT = new int[4];
    private static final Map<Integer, long[]> SEEN = new HashMap<>();
    private static int engine;

    public static void main(String[] args) {
        bounds();
        byHand();
        againstEveryWayOfChoosing();
        againstRecursion();
        inAnyOrder();
        greatest();
        Check.finish();
    }

    private static void bounds() {
        SailCargo x = new SailCargo();
        x.sails(0, 20);
        int[][] wrong = {{-1, 1, 1, 1, 0}, {121, 1, 1, 1, 0}, {1, -1, 1, 1, 0}, {1, 13, 1, 1, 0}, {1, 1, -1, 1, 0},
            {1, 1, 13, 1, 0}, {1, 1, 1, -1, 0}, {1, 1, 1, 1001, 0}, {1, 1, 1, 1, -1}, {1, 1, 1, 1, 2}};
        for (int[] w : wrong) {
            Check.same("luck wrong", x.luck(w[0], w[1], w[2], w[3], w[4]), -1);
        }
        int[][] wrongChoice = {{-1, 1, 1, 1, 0}, {121, 1, 1, 1, 0}, {1, 0, 1, 1, 0}, {1, 13, 1, 1, 0},
            {1, 1, -1, 1, 0}, {1, 1, 13, 1, 0}, {1, 1, 1, -1, 0}, {1, 1, 1, 4, 0}, {1, 1, 1, 1, -1}, {1, 1, 1, 1, 1001}};
        for (int[] w : wrongChoice) {
            Check.same("choice wrong", x.choice(w[0], w[1], w[2], w[3], w[4]), -1);
        }
        int[][] wrongPromise = {{-1, 1, 1, 1}, {121, 1, 1, 1}, {1, -1, 1, 1}, {1, 13, 1, 1}, {1, 1, -1, 1},
            {1, 1, 1001, 1}, {1, 1, 1, 0}, {1, 1, 1, 17}, {0, 0, 0, -1}};
        for (int[] w : wrongPromise) {
            Check.same("promise wrong", x.promise(w[0], w[1], w[2], w[3]), -1);
        }
        Check.same("status is not of these", x.status(), 0);
        Check.same("luck edge", x.luck(0, 12, 12, 1000, 0), 1L << 48);
        Check.holds("luck edge", x.luck(120, 12, 12, 1000, 0) > 0);
        Check.same("no days, no miles", x.luck(0, 0, 0, 0, 0), 1);
        Check.same("no days, no miles", x.luck(0, 0, 0, 0, 1), 0);
        Check.same("no days", x.luck(1, 0, 12, 0, 0), 0);
        Check.same("no days", x.luck(1, 0, 12, 0, 1), 0);
        Check.same("promise of 0 miles", x.promise(0, 0, 0, 16), 0);
        Check.same("promise of 0 miles", x.promise(0, 12, 1000, 1), 0);
        Check.same("choice of 0 miles", x.choice(0, 12, 12, 3, 1000), 0);
    }

    private static void byHand() {
        SailCargo x = new SailCargo();
        x.engine(10);
        Check.same("luck by ENGINE", x.luck(120, 12, 12, 0, 0), 1L << 48);
        Check.same("COAL by ENGINE", x.luck(120, 12, 12, 0, 1), 12L << 48);
        Check.same("one COAL too few", x.luck(120, 12, 11, 0, 0), 0);
        Check.same("nothing burnt for nothing", x.luck(120, 12, 11, 0, 1), 0);
        Check.same("nothing burnt for nothing", x.choice(120, 12, 11, 0, 0), 0);
        Check.same("nothing burnt behind the end", x.luck(15, 12, 12, 0, 1), 2L << 48);
        Check.same("promise", x.promise(95, 12, 0, 16), 10);
        Check.same("promise", x.promise(95, 9, 0, 1), -1);
        Check.same("promise of twelve days", x.promise(120, 12, 0, 16), 12);
        Check.same("choice", x.choice(15, 3, 2, 2, 0), 0);
        Check.same("choice", x.choice(15, 2, 2, 2, 0), 1);
        // Alike chances, less COAL: with two days for one, a WIND may still come.
        x.sails(3, 10);
        Check.same("luck", x.luck(10, 2, 1, 0, 0), 256);
        Check.same("COAL", x.luck(10, 2, 1, 0, 1), 144);
        Check.same("choice", x.choice(10, 2, 1, 0, 0), 0);
        Check.same("choice", x.choice(10, 1, 1, 0, 0), 1);
        Check.same("choice", x.choice(10, 1, 1, 3, 0), 0);
        Check.same("7 of 16", x.promise(10, 0, 0, 7), 2);
        Check.same("8 of 16", x.promise(10, 0, 0, 8), 3);
        // A WIND without WEIGHT has a CHOICE, too.
        x.winds(16, 0, 0, 0, 9);
        Check.same("choice", x.choice(10, 1, 1, 3, 9), 0);
        Check.same("choice", x.choice(11, 2, 1, 3, 9), 0);
        Check.same("choice", x.choice(11, 2, 1, 0, 9), 0);
        Check.same("luck", x.luck(11, 2, 1, 9, 0), 0);
    }

    /** Every way of choosing, by all the winds that came so far, for two even winds. */
    private static void againstEveryWayOfChoosing() {
        Random random = new Random(5);
        for (int round = 0; round < 60; round++) {
            SailCargo x = new SailCargo();
            set(x, random, 6);
            x.winds(8, 8, 0, 0, 0);
            int days = 1 + random.nextInt(2);
            int miles = random.nextInt(13);
            int coal = random.nextInt(3);
            long bestChance = -1;
            long leastBurnt = 0;
            int ways = days == 1 ? 9 : 729;
            for (int way = 0; way < ways; way++) {
                long[] outcome = follow(way, miles, days, coal);
                if (outcome[0] > bestChance || outcome[0] == bestChance && outcome[1] < leastBurnt) {
                    bestChance = outcome[0];
                    leastBurnt = outcome[1];
                }
            }
            Check.same("luck of all ways", x.luck(miles, days, coal, 0, 0), bestChance);
            Check.same("COAL of all ways", x.luck(miles, days, coal, 0, 1), leastBurnt);
        }
    }

    private static long[] follow(int way, int miles, int days, int coal) {
        int[] plan = new int[6];
        for (int i = 0; i < 6; i++) {
            plan[i] = way % 3;
            way /= 3;
        }
        long[] outcome = new long[2];
        int histories = 1 << days;
        for (int winds = 0; winds < histories; winds++) {
            int left = miles;
            int coalLeft = coal;
            for (int day = 0; day < days && left > 0; day++) {
                int wind = winds >> day & 1;
                int chosen = plan[day == 0 ? wind : 2 + (winds & 3)];
                if (chosen == 0) {
                    left -= SPEED[wind];
                } else if (chosen == 1 && coalLeft > 0) {
                    left -= engine;
                    coalLeft--;
                }
            }
            long share = (1L << 4 * days) / histories;
            outcome[0] += left <= 0 ? share : 0;
            outcome[1] += share * (coal - coalLeft);
        }
        return outcome;
    }

    private static void againstRecursion() {
        Random random = new Random(7);
        SailCargo x = new SailCargo();
        for (int round = 0; round < 120; round++) {
            if (round % 6 == 0) {
                x = new SailCargo();
            }
            set(x, random, 20);
            weigh(x, random);
            for (int i = 0; i < 3; i++) {
                look(x, random.nextInt(121), 1 + random.nextInt(12), random.nextInt(13), random);
            }
        }
    }

    /** One thing is told anew at a time, between questions of all sizes on days ahead of it and behind it. */
    private static void inAnyOrder() {
        Random random = new Random(23);
        for (int round = 0; round < 25; round++) {
            SailCargo x = new SailCargo();
            List<int[]> told = new ArrayList<>();
            set(x, random, 20);
            for (int step = 0; step < 80; step++) {
                tellOne(x, told, random);
                int known = random.nextInt(4);
                know(told, known);
                int miles = random.nextInt(random.nextBoolean() ? 121 : 20);
                ask(x, miles, random.nextInt(13), random.nextInt(13), known, random);
            }
        }
    }

    private static void tellOne(SailCargo x, List<int[]> told, Random random) {
        int what = random.nextInt(6);
        if (what == 0) {
            int wind = random.nextInt(4);
            SPEED[wind] = random.nextInt(21);
            x.sails(wind, SPEED[wind]);
        } else if (what == 1) {
            engine = random.nextInt(21);
            x.engine(engine);
        } else if (what == 2 && told.size() < 40) {
            int a = random.nextInt(17);
            int b = random.nextInt(17 - a);
            int known = random.nextInt(4);
            told.add(new int[] {a, b, 0, 16 - a - b, known});
            x.winds(a, b, 0, 16 - a - b, known);
        }
    }

    private static void know(List<int[]> told, int known) {
        int[] weights = {4, 4, 4, 4};
        for (int[] one : told) {
            weights = one[4] <= known ? one : weights;
        }
        System.arraycopy(weights, 0, WEIGHT, 0, 4);
        SEEN.clear();
    }

    private static void ask(SailCargo x, int miles, int days, int coal, int known, Random random) {
        if (random.nextBoolean()) {
            Check.same("luck", x.luck(miles, days, coal, known, 0), plain(miles, days, coal)[0]);
            Check.same("COAL", x.luck(miles, days, coal, known, 1), plain(miles, days, coal)[1]);
        } else {
            int wind = random.nextInt(4);
            int want = days == 0 ? -1 : plainChoice(miles, days, coal, wind);
            Check.same("choice", x.choice(miles, days, coal, wind, known), want);
        }
        int n = 1 + random.nextInt(16);
        int fewest = 0;
        while (fewest <= 12 && 16 * plain(miles, fewest, coal)[0] < n * (1L << 4 * fewest)) {
            fewest++;
        }
        Check.same("promise", x.promise(miles, coal, known, n), fewest > 12 ? -1 : fewest);
    }

    private static void set(SailCargo x, Random random, int fastest) {
        for (int wind = 0; wind < 4; wind++) {
            SPEED[wind] = random.nextInt(fastest + 1);
            x.sails(wind, SPEED[wind]);
        }
        engine = random.nextInt(fastest + 1);
        x.engine(engine);
    }

    private static void weigh(SailCargo x, Random random) {
        int left = 16;
        for (int wind = 0; wind < 3; wind++) {
            WEIGHT[wind] = random.nextInt(left + 1);
            left -= WEIGHT[wind];
        }
        WEIGHT[3] = left;
        x.winds(WEIGHT[0], WEIGHT[1], WEIGHT[2], WEIGHT[3], 0);
        SEEN.clear();
    }

    private static void look(SailCargo x, int miles, int days, int coal, Random random) {
        long[] want = plain(miles, days, coal);
        int wind = random.nextInt(4);
        Check.same("choice", x.choice(miles, days, coal, wind, 3), plainChoice(miles, days, coal, wind));
        Check.same("luck", x.luck(miles, days, coal, 3, 0), want[0]);
        Check.same("COAL", x.luck(miles, days, coal, 3, 1), want[1]);
        int n = 1 + random.nextInt(16);
        int fewest = x.promise(miles, coal, 3, n);
        for (int d = 0; d <= 12; d++) {
            boolean reached = 16 * plain(miles, d, coal)[0] >= n * (1L << 4 * d);
            Check.holds("promise " + fewest + " by " + d, reached == (fewest != -1 && fewest <= d));
        }
    }

    /** The terms' words as they stand: chance and mean COAL, day by day. */
    private static long[] plain(int miles, int days, int coal) {
        if (miles <= 0) {
            return new long[] {1L << 4 * days, 0};
        }
        int key = (miles * 13 + days) * 13 + coal;
        long[] seen = SEEN.get(key);
        if (seen == null) {
            seen = plainSum(miles, days, coal);
            SEEN.put(key, seen);
        }
        return seen;
    }

    private static long[] plainSum(int miles, int days, int coal) {
        long[] sum = new long[2];
        if (days > 0) {
            for (int wind = 0; wind < 4; wind++) {
                if (WEIGHT[wind] > 0) {
                    long[] best = after(plainChoice(miles, days, coal, wind), miles, days, coal, wind);
                    sum[0] += WEIGHT[wind] * best[0];
                    sum[1] += WEIGHT[wind] * best[1];
                }
            }
        }
        return sum;
    }

    private static int plainChoice(int miles, int days, int coal, int wind) {
        int best = 0;
        long[] most = after(0, miles, days, coal, wind);
        for (int choice = 1; choice <= 2; choice++) {
            if (choice == 1 && coal == 0) {
                continue;
            }
            long[] other = after(choice, miles, days, coal, wind);
            if (other[0] > most[0] || other[0] == most[0] && other[1] < most[1]) {
                best = choice;
                most = other;
            }
        }
        return best;
    }

    private static long[] after(int choice, int miles, int days, int coal, int wind) {
        if (choice == 0) {
            return plain(miles - SPEED[wind], days - 1, coal);
        }
        if (choice == 2) {
            return plain(miles, days - 1, coal);
        }
        long[] then = plain(miles - engine, days - 1, coal - 1);
        return new long[] {then[0], then[1] + (1L << 4 * (days - 1))};
    }

    /** The largest of all, asked again and again with other known days, and smaller ones between. */
    private static void greatest() {
        SailCargo x = new SailCargo();
        for (int wind = 0; wind < 4; wind++) {
            x.sails(wind, 5 * wind);
        }
        x.engine(12);
        x.winds(0, 0, 0, 16, 10);
        long even = x.luck(120, 12, 12, 9, 0);
        long evenCoal = x.luck(120, 12, 12, 9, 1);
        Check.same("luck", x.luck(120, 12, 12, 10, 0), 1L << 48);
        Check.same("COAL", x.luck(120, 12, 12, 10, 1), 0);
        Check.same("luck", x.luck(15, 1, 0, 10, 0), 16);
        Check.same("luck", x.luck(15, 1, 0, 9, 0), 4);
        Check.same("luck", x.luck(15, 1, 1, 9, 0), 4);
        Check.same("luck", x.luck(12, 1, 1, 9, 0), 16);
        Check.same("luck", x.luck(12, 1, 1, 9, 1), 12);
        Check.same("luck as ahead", x.luck(120, 12, 12, 9, 0), even);
        Check.same("COAL as ahead", x.luck(120, 12, 12, 9, 1), evenCoal);
        Check.holds("by ENGINE alone it is sure", even == 1L << 48);
        Check.holds("some COAL, not all", evenCoal > 0 && evenCoal < 10L << 48);
    }
}
