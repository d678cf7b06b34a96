/** The sentences of Term VI and of promises 21 to 24: leg, aboard, part, smoke. */
final class VoyageEdges {
    private static final int MIN = Integer.MIN_VALUE;
    private static final int MAX = Integer.MAX_VALUE;

    private VoyageEdges() {
    }

    static void all() {
        legs();
        parted();
        rests();
        full();
        leg();
        aboard();
        part();
        smoke();
    }

    private static void legs() {
        Line.of("Term VI", "LEGS of a voyage 0 .. 9 (10 at most), in order", x -> {
            x.due(0, "load", 1, 0);
            x.times(10, i -> x.due(i, "leg", 100 + i));
            x.due(-5, "leg", 1);
            x.due(10, "count", 4);
            x.due(0, "aboard", 0, 0, 9);
            x.times(10, i -> x.due(100 + i, "part", 0, i));
            x.due(-1, "part", 0, 10);
            x.due(-2, "aboard", 0, 0, 10);
            x.due(1045, "smoke", 0);
        });
        Line.of("Term VI", "each with SMOKE (0 .. 100,000)", x -> {
            x.due(0, "leg", 0);
            x.due(1, "leg", 100000);
            x.outside(0, 100000, -1, "leg", 0, 0);
            x.due(100000, "smoke", -1);
            x.due(0, "load", 200, 0);
            x.due(0, "aboard", 0, 0, 1);
            x.due(0, "part", 0, 0);
            x.due(100000, "part", 0, 1);
            x.due(0, "smoke", -1);
        });
        Line.of("Term VI", "ABOARD: a LOAD from a LEG to a LEG", x -> {
            x.due(0, "load", 1, 0);
            x.times(4, i -> x.due(i, "leg", 10));
            x.due(0, "smoke", 0);
            x.due(0, "aboard", 0, 1, 2);
            x.due(0, "part", 0, 0);
            x.due(10, "part", 0, 1);
            x.due(10, "part", 0, 2);
            x.due(0, "part", 0, 3);
            x.due(0, "aboard", 0, 3, 3);
            x.due(0, "part", 0, 2);
            x.due(10, "part", 0, 3);
        });
    }

    private static void parted() {
        Line.of("Term VI", "The SMOKE of a LEG is PARTED by TONS among all LOADS ABOARD", x -> {
            x.due(0, "load", 10, 0);
            x.due(1, "load", 30, 0);
            x.due(2, "load", 60, 0);
            x.due(0, "leg", 1000);
            x.due(0, "aboard", 0, 0, 0);
            parts(x, 0, 1000, 0, 0);
            x.due(0, "aboard", 1, 0, 0);
            parts(x, 0, 250, 750, 0);
            x.due(0, "aboard", 2, 0, 0);
            parts(x, 0, 100, 300, 600);
            x.due(0, "smoke", -1);
        });
        Line.of("Term VI", "each gets SMOKE times its TONS / all TONS, cut", x -> {
            x.due(0, "load", 1, 0);
            x.due(1, "load", 2, 0);
            x.due(0, "leg", 3);
            x.due(1, "leg", 0);
            x.due(2, "leg", 2);
            x.due(0, "aboard", 0, 0, 2);
            x.due(0, "aboard", 1, 0, 2);
            parts(x, 0, 1, 2);
            parts(x, 1, 0, 0);
            // 2 / 3 and 4 / 3: 0 with rest 2, 1 with rest 1.
            parts(x, 2, 1, 1);
        });
        Line.of("Term VI", "Of a LEG without LOADS it is the line's own", x -> {
            x.due(0, "smoke", -1);
            x.due(0, "leg", 7);
            x.due(1, "leg", 5);
            x.due(12, "smoke", -1);
            x.due(0, "load", 1, 0);
            x.due(12, "smoke", -1);
            x.due(0, "part", 0, 0);
            x.due(0, "aboard", 0, 1, 1);
            x.due(7, "smoke", -1);
            x.due(5, "smoke", 0);
            x.due(0, "aboard", 0, 0, 1);
            x.due(0, "smoke", -1);
            x.due(0, "aboard", 0, 0, 0);
            x.due(5, "smoke", -1);
        });
    }

    private static void rests() {
        Line.of("Term VI", "of what is left one each those with the greatest rests of that", x -> {
            x.due(0, "load", 1, 0);
            x.due(1, "load", 3, 0);
            x.due(2, "load", 3, 0);
            x.times(3, i -> x.due(i, "leg", i + 1));
            x.times(3, i -> x.due(0, "aboard", i, 0, 2));
            // 1: rests 1, 3, 3 of 7. 2: rests 2, 6, 6. 3: 0, 1, 1 with rests 3, 2, 2.
            parts(x, 0, 0, 1, 0);
            parts(x, 1, 0, 1, 1);
            parts(x, 2, 1, 1, 1);
        });
        Line.of("Term VI", "of alike ones the lower LOAD first", x -> {
            x.times(4, i -> x.due(i, "load", 50, 0));
            x.times(4, i -> x.due(i, "leg", 100 + i));
            x.times(4, i -> x.due(0, "aboard", i, 0, 3));
            parts(x, 0, 25, 25, 25, 25);
            parts(x, 1, 26, 25, 25, 25);
            parts(x, 2, 26, 26, 25, 25);
            parts(x, 3, 26, 26, 26, 25);
            x.due(103, "smoke", 0);
            // One that is not ABOARD gets none of it.
            x.due(0, "aboard", 0, 0, 0);
            parts(x, 1, 0, 34, 34, 33);
        });
    }

    private static void parts(Line x, int leg, int... want) {
        for (int load = 0; load < want.length; load++) {
            x.due(want[load], "part", load, leg);
        }
    }

    /** 12 LOADS of 189 .. 200 TONS, and the most SMOKE: 100,000 times 200 is no number that wraps around. */
    private static void full() {
        Line.of("Term VI", "of what is left one each those with the greatest rests of that", x -> {
            x.times(12, i -> x.due(i, "load", 189 + i, 0));
            x.times(10, i -> x.due(i, "leg", 100000));
            x.times(12, i -> x.due(0, "aboard", i, 0, 9));
            // Of 2334 TONS in all. Cut: 8097, 8140, 8183, 8226, 8269, 8311, 8354, 8397, 8440, 8483,
            // 8526, 8568, which leaves 6; the rests are 1602, 1240, 878, 516, 154, 2126, 1764, 1402,
            // 1040, 678, 316, 2288.
            int[] want = {8098, 8141, 8183, 8226, 8269, 8312, 8355, 8398, 8440, 8483, 8526, 8569};
            for (int load = 0; load < 12; load++) {
                x.due(want[load], "part", load, 9);
                x.due(10 * want[load], "smoke", load);
            }
            x.due(0, "smoke", -1);
        });
    }

    private static void leg() {
        Line.of("Promise 21", "A LEG: its number", x -> {
            x.due(0, "leg", 5);
            x.due(-1, "leg", -1);
            x.due(1, "leg", 5);
            x.due(2, "count", 4);
        });
        Line.of("Promise 21", "-1", x -> {
            x.due(-1, "leg", -1);
            x.due(-1, "leg", 100001);
            x.due(-1, "leg", MIN);
            x.due(-1, "leg", MAX);
            x.due(0, "count", 4);
        });
        Line.of("Promise 21", "-5", x -> {
            x.times(10, i -> x.due(i, "leg", 100000));
            x.due(-5, "leg", 0);
            x.due(-5, "leg", 100000);
            x.due(-1, "leg", 100001);
            x.due(10, "count", 4);
            x.due(1000000, "smoke", -1);
        });
    }

    private static void aboard() {
        Line.of("Promise 22", "A LOAD is ABOARD from a LEG to a LEG, and on no others: 0", x -> {
            x.times(2, i -> x.due(i, "load", 1, 0));
            x.times(10, i -> x.due(i, "leg", 2));
            x.due(0, "aboard", 0, 0, 9);
            x.due(20, "smoke", 0);
            x.due(0, "aboard", 0, 9, 9);
            x.due(2, "smoke", 0);
            x.due(2, "part", 0, 9);
            x.due(0, "aboard", 0, 0, 0);
            x.due(2, "part", 0, 0);
            x.due(0, "part", 0, 9);
            x.due(0, "aboard", 1, 0, 1);
            x.due(1, "smoke", 0);
            x.due(3, "smoke", 1);
            x.due(16, "smoke", -1);
        });
        Line.of("Promise 22", "-1 the second LEG ahead of the first", x -> {
            x.due(-1, "aboard", 0, 1, 0);
            x.due(0, "load", 1, 0);
            x.times(2, i -> x.due(i, "leg", 5));
            x.due(0, "aboard", 0, 1, 1);
            x.due(-1, "aboard", 0, 1, 0);
            x.due(-1, "aboard", 0, 0, -1);
            x.due(-1, "aboard", 0, 3, 2);
            x.due(-1, "aboard", 1, 1, 0);
            x.due(-1, "aboard", 0, MAX, MIN);
            x.due(5, "smoke", 0);
            x.due(5, "part", 0, 1);
        });
        Line.of("Promise 22", "-2", x -> {
            x.due(-2, "aboard", 0, 0, 0);
            x.times(2, i -> x.due(i, "load", 1, 0));
            x.due(-2, "aboard", 0, 0, 0);
            x.times(2, i -> x.due(i, "leg", 5));
            x.outside(0, 1, -2, "aboard", 0, 0, 0, 0);
            x.due(-2, "aboard", 0, -1, 0);
            x.due(-2, "aboard", 0, MIN, 0);
            x.due(-2, "aboard", 0, 0, 2);
            x.due(-2, "aboard", 0, 0, MAX);
            x.due(-2, "aboard", 0, MIN, MAX);
            x.due(-2, "aboard", 0, -1, -1);
            x.due(-2, "aboard", 0, 2, 2);
            x.due(-2, "aboard", 12, 0, 0);
            x.due(0, "smoke", 0);
        });
    }

    private static void part() {
        Line.of("Promise 23", "What a LOAD gets of a LEG's SMOKE", x -> {
            x.due(0, "load", 1, 0);
            x.due(1, "load", 199, 0);
            x.due(0, "leg", 100);
            x.due(1, "leg", 99);
            x.due(0, "aboard", 0, 0, 1);
            x.due(0, "aboard", 1, 0, 1);
            // 100 / 200 for LOAD 0: rests of 100 both, the lower first. 99 / 200: the greater rest.
            parts(x, 0, 1, 99);
            parts(x, 1, 0, 99);
        });
        Line.of("Promise 23", "NONE without one of them", x -> {
            x.due(-1, "part", 0, 0);
            x.due(0, "load", 1, 0);
            x.due(-1, "part", 0, 0);
            x.due(0, "leg", 5);
            x.due(0, "part", 0, 0);
            x.outside(0, 0, -1, "part", 0, 0, 0);
            x.outside(0, 0, -1, "part", 1, 0, 0);
            x.due(-1, "part", 11, 0);
            x.due(-1, "part", 12, 0);
            x.due(-1, "part", 0, 9);
            x.due(-1, "part", 0, 10);
            x.due(-1, "part", MIN, MAX);
        });
    }

    private static void smoke() {
        Line.of("Promise 24", "SMOKE of a LOAD over all LEGS", x -> {
            x.times(2, i -> x.due(i, "load", 1 + i, 0));
            x.due(0, "smoke", 0);
            x.times(10, i -> x.due(i, "leg", 1));
            x.due(0, "smoke", 0);
            x.due(0, "aboard", 0, 0, 9);
            x.due(10, "smoke", 0);
            x.due(0, "aboard", 1, 5, 9);
            // LEG by LEG: of 1 / 3 and 2 / 3 the one goes to the greater rest, five times.
            x.due(5, "smoke", 0);
            x.due(5, "smoke", 1);
        });
        Line.of("Promise 24", "of the line's own (load NONE)", x -> {
            x.due(0, "smoke", SailCargo.NONE);
            x.times(10, i -> x.due(i, "leg", 100000));
            x.due(1000000, "smoke", SailCargo.NONE);
        });
        Line.of("Promise 24", "NONE - 1 (-2) without", x -> {
            x.due(-2, "smoke", 0);
            x.due(0, "leg", 5);
            x.due(-2, "smoke", 0);
            x.due(0, "load", 1, 0);
            x.due(0, "smoke", 0);
            x.due(-2, "smoke", 1);
            x.due(-2, "smoke", -2);
            x.due(-2, "smoke", 11);
            x.due(-2, "smoke", 12);
            x.due(-2, "smoke", MIN);
            x.due(-2, "smoke", MAX);
            x.due(5, "smoke", -1);
        });
    }
}
