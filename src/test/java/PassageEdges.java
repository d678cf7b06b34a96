/** The sentences of Term II and of promises 6 to 8: luck, choice, promise. */
final class PassageEdges {
    private static final int MIN = Integer.MIN_VALUE;
    private static final int MAX = Integer.MAX_VALUE;
    private static final long TWELVE_DAYS = 1L << 48;

    private PassageEdges() {
    }

    static void all() {
        bounds();
        winds();
        choices();
        best();
        parts();
        luck();
        choice();
        promise();
    }

    private static void bounds() {
        Line.of("Term II", "LUCK of m MILES (0 .. 120)", x -> {
            x.due(0, "engine", 10);
            x.due(TWELVE_DAYS, "luck", 0, 12, 12, 0, 0);
            x.due(TWELVE_DAYS, "luck", 120, 12, 12, 0, 0);
            x.outside(0, 120, -1, "luck", 0, 0, 12, 12, 0, 0);
            x.due(0, "choice", 0, 12, 12, 0, 0);
            x.due(1, "choice", 120, 12, 12, 0, 0);
            x.outside(0, 120, -1, "choice", 0, 0, 12, 12, 0, 0);
            x.due(0, "promise", 0, 12, 0, 16);
            x.due(12, "promise", 120, 12, 0, 16);
            x.outside(0, 120, -1, "promise", 0, 0, 12, 0, 16);
        });
        Line.of("Term II", "in d days (0 .. 12)", x -> {
            x.due(0, "engine", 20);
            x.due(1, "luck", 0, 0, 12, 0, 0);
            x.due(0, "luck", 1, 0, 12, 0, 0);
            x.due(0, "luck", 1, 0, 12, 0, 1);
            x.due(16, "luck", 1, 1, 12, 0, 0);
            x.due(TWELVE_DAYS, "luck", 1, 12, 12, 0, 0);
            x.outside(0, 12, -1, "luck", 1, 1, 0, 12, 0, 0);
        });
        Line.of("Term II", "with c COAL (0 .. 12)", x -> {
            x.due(0, "engine", 10);
            x.due(0, "luck", 1, 12, 0, 0, 0);
            x.due(TWELVE_DAYS, "luck", 120, 12, 12, 0, 0);
            x.due(12 * TWELVE_DAYS, "luck", 120, 12, 12, 0, 1);
            x.outside(0, 12, -1, "luck", 2, 1, 12, 0, 0, 0);
            x.due(0, "choice", 1, 1, 0, 0, 0);
            x.due(1, "choice", 1, 1, 12, 0, 0);
            x.outside(0, 12, -1, "choice", 2, 1, 1, 0, 0, 0);
            x.due(-1, "promise", 1, 0, 0, 1);
            x.due(1, "promise", 1, 12, 0, 16);
            x.outside(0, 12, -1, "promise", 1, 1, 12, 0, 16);
        });
    }

    private static void winds() {
        Line.of("Term II", "as known on a DAY", x -> {
            x.due(0, "sails", 3, 10);
            x.due(1, "winds", 0, 0, 0, 16, 500);
            x.due(4, "luck", 10, 1, 0, 499, 0);
            x.due(16, "luck", 10, 1, 0, 500, 0);
            // What is known on the DAY counts for all the days, though more would be known by then.
            x.due(16, "luck", 20, 2, 0, 499, 0);
            x.due(256, "luck", 20, 2, 0, 500, 0);
            x.due(2, "promise", 20, 0, 500, 16);
            x.due(-1, "promise", 20, 0, 499, 16);
            x.due(2, "winds", 16, 0, 0, 0, 0);
            x.due(0, "luck", 10, 12, 0, 1000, 0);
        });
        Line.of("Term II", "each day a WIND comes by WEIGHTS, in sixteenths, whatever came ahead", x -> {
            x.due(1, "winds", 1, 2, 3, 10, 0);
            for (int wind = 0; wind < 4; wind++) {
                x.due(0, "sails", wind, 1 << wind);
            }
            x.due(16, "luck", 1, 1, 0, 0, 0);
            x.due(15, "luck", 2, 1, 0, 0, 0);
            x.due(13, "luck", 4, 1, 0, 0, 0);
            x.due(10, "luck", 8, 1, 0, 0, 0);
            x.due(100, "luck", 16, 2, 0, 0, 0);
            // 9 MILES need an 8 on one of the days: 16 * 16 - 6 * 6; 8 MILES are 4 + 4, too.
            x.due(220, "luck", 9, 2, 0, 0, 0);
            x.due(229, "luck", 8, 2, 0, 0, 0);
            x.due(1000, "luck", 24, 3, 0, 0, 0);
            x.due(2, "winds", 0, 16, 0, 0, 0);
            x.due(1L << 20, "luck", 10, 5, 0, 0, 0);
            x.due(0, "luck", 11, 5, 0, 0, 0);
        });
    }

    private static void choices() {
        Line.of("Term II", "then one of these is chosen: 0 SAILS", x -> {
            x.due(0, "sails", 1, 5);
            x.due(0, "engine", 5);
            x.due(0, "choice", 5, 1, 1, 1, 0);
            x.due(1, "choice", 5, 1, 1, 2, 0);
            // One of these, not two: SAILS and ENGINE on one day would make ten.
            x.due(0, "luck", 6, 1, 1, 0, 0);
            // WIND 1 has to come on one of the days: 16 * 16 - 12 * 12.
            x.due(112, "luck", 10, 2, 1, 0, 0);
        });
        Line.of("Term II", "1 ENGINE (if there is COAL: one less then)", x -> {
            x.due(0, "engine", 10);
            x.due(0, "choice", 10, 1, 0, 0, 0);
            x.due(1, "choice", 10, 1, 1, 0, 0);
            x.due(0, "luck", 10, 1, 0, 0, 0);
            x.due(16, "luck", 10, 1, 1, 0, 0);
            x.due(0, "luck", 11, 2, 1, 0, 0);
            x.due(256, "luck", 11, 2, 2, 0, 0);
            x.due(0, "luck", 120, 12, 11, 0, 0);
            x.due(TWELVE_DAYS, "luck", 120, 12, 12, 0, 0);
        });
        Line.of("Term II", "2 to wait (no MILES)", x -> {
            x.due(0, "luck", 1, 12, 12, 0, 0);
            // SAILS come first and make no less than waiting, so no day is waited away.
            for (int wind = 0; wind < 4; wind++) {
                x.due(0, "choice", 1, 12, 12, wind, 0);
                x.due(0, "choice", 120, 1, 0, wind, 0);
            }
        });
    }

    private static void best() {
        Line.of("Term II", "Of all ways of choosing that by which the MILES are made", PassageEdges::bothWays);
        Line.of("Term II", "(to 0 or less)", x -> {
            for (int wind = 0; wind < 4; wind++) {
                x.due(0, "sails", wind, 20);
            }
            x.due(16, "luck", 1, 1, 0, 0, 0);
            x.due(16, "luck", 20, 1, 0, 0, 0);
            x.due(0, "luck", 21, 1, 0, 0, 0);
            x.due(256, "luck", 21, 2, 0, 0, 0);
            x.due(0, "engine", 19);
            x.due(1, "winds", 16, 0, 0, 0, 0);
            x.due(0, "sails", 0, 0);
            x.due(16, "luck", 1, 1, 1, 0, 0);
            x.due(16, "luck", 19, 1, 1, 0, 0);
            x.due(0, "luck", 20, 1, 1, 0, 0);
        });
        Line.of("Term II", "within the days with the greatest chance", x -> {
            x.due(0, "sails", 0, 10);
            x.due(4, "luck", 10, 1, 0, 0, 0);
            x.due(256 - 144, "luck", 10, 2, 0, 0, 0);
            x.due(16, "luck", 20, 2, 0, 0, 0);
            x.due(0, "luck", 21, 2, 0, 0, 0);
            x.due(4096 - 1728, "luck", 1, 3, 0, 0, 0);
        });
        Line.of("Term II", "of alike ones that by which the least COAL is burnt in the mean", x -> {
            x.due(0, "engine", 10);
            x.due(0, "sails", 3, 10);
            x.due(256, "luck", 10, 2, 1, 0, 0);
            x.due(144, "luck", 10, 2, 1, 0, 1);
            x.due(0, "choice", 10, 2, 1, 0, 0);
            x.due(1, "choice", 10, 1, 1, 0, 0);
            x.due(0, "choice", 10, 1, 1, 3, 0);
            // Where no way makes the MILES, the least is nothing.
            x.due(0, "luck", 21, 2, 2, 0, 1);
            x.due(0, "choice", 21, 2, 2, 0, 0);
        });
        // 50 MILES in six days, SAILS of 8 on the five to come: one COAL today, or five of them then.
        Line.of("Term II", "of alike ones that by which the least COAL is burnt in the mean", x -> {
            x.due(0, "engine", 10);
            x.due(0, "sails", 1, 8);
            x.due(1, "winds", 0, 16, 0, 0, 0);
            x.due(1L << 20, "luck", 50, 5, 5, 0, 0);
            x.due(5L << 20, "luck", 50, 5, 5, 0, 1);
            x.due(1, "choice", 50, 6, 5, 0, 0);
            x.due(0, "choice", 50, 6, 5, 1, 0);
            x.due(1L << 24, "luck", 50, 6, 5, 0, 1);
            x.due(1, "choice", 51, 6, 5, 0, 0);
        });
        Line.of("Term II", "of alike ones that by which the least COAL is burnt in the mean", PassageEdges::byOnePart);
        Line.of("Term II", "(nothing is burnt behind the end)", x -> {
            x.due(0, "engine", 10);
            x.due(0, "luck", 0, 12, 12, 0, 1);
            x.due(TWELVE_DAYS, "luck", 10, 12, 12, 0, 1);
            x.due(2 * TWELVE_DAYS, "luck", 11, 12, 12, 0, 1);
            x.due(0, "choice", 0, 1, 12, 0, 0);
            x.due(0, "choice", 0, 12, 12, 3, 0);
        });
    }

    /** 40 MILES in three days, all ways sure: with WIND 0 the ENGINE saves one part of 256. */
    private static void byOnePart(Line x) {
        int[] miles = {2, 18, 11, 16};
        for (int wind = 0; wind < 4; wind++) {
            x.due(0, "sails", wind, miles[wind]);
        }
        x.due(0, "engine", 20);
        x.due(1, "winds", 10, 5, 0, 1, 0);
        // Behind SAILS 38 are left: 5 * 16 + 11 * (16 + 11). Behind ENGINE 20: 10 * 11 + 1 * 10.
        x.due(377, "luck", 38, 2, 3, 0, 1);
        x.due(120, "luck", 20, 2, 2, 0, 1);
        x.due(1, "choice", 40, 3, 3, 0, 0);
        x.due(4096, "luck", 40, 3, 3, 0, 0);
        // By WIND: 10 * (256 + 120), 5 * 220 and 1 * 320 behind SAILS.
        x.due(5180, "luck", 40, 3, 3, 0, 1);
    }

    /** 15 MILES in two days, ENGINE 10 for one COAL, and 5 by SAILS if WIND 0 comes. */
    private static void bothWays(Line x) {
        x.due(0, "sails", 0, 5);
        x.due(0, "engine", 10);
        x.due(0, "choice", 15, 2, 1, 0, 0);
        x.due(1, "choice", 15, 2, 1, 1, 0);
        // WIND 0 first: sure, with the ENGINE behind it. Else ENGINE, and WIND 0 behind it.
        x.due(4 * 16 + 12 * 4, "luck", 15, 2, 1, 0, 0);
        x.due(4 * 16 + 12 * 16, "luck", 15, 2, 1, 0, 1);
    }

    private static void parts() {
        Line.of("Term II", "LUCK is told in 16 to the d-th parts, the mean COAL likewise", x -> {
            x.due(0, "engine", 1);
            x.due(1, "luck", 0, 0, 0, 0, 0);
            for (int days = 1; days <= 12; days++) {
                x.due(1L << 4 * days, "luck", 0, days, 0, 0, 0);
                x.due(1L << 4 * days, "luck", days, days, 12, 0, 0);
                x.due(days * (1L << 4 * days), "luck", days, days, 12, 0, 1);
                x.due(0, "luck", days + 1, days, 12, 0, 0);
            }
        });
        Line.of("Term II", "The CHOICE of a day with a WIND: the first (SAILS, ENGINE, to wait) by which both are so", x -> {
            x.due(0, "engine", 10);
            // One COAL either way, today or tomorrow: SAILS are the first.
            x.due(0, "choice", 10, 2, 1, 0, 0);
            x.due(1, "choice", 11, 2, 2, 0, 0);
            x.due(0, "choice", 11, 3, 2, 0, 0);
            // SAILS alone make it, for no COAL; ENGINE alone would, too.
            x.due(0, "sails", 1, 20);
            x.due(0, "choice", 10, 1, 1, 1, 0);
            x.due(1, "choice", 10, 1, 1, 0, 0);
            // A WIND without WEIGHT has its CHOICE.
            x.due(1, "winds", 16, 0, 0, 0, 0);
            x.due(0, "choice", 20, 1, 1, 1, 0);
            x.due(1, "choice", 20, 2, 2, 0, 0);
            x.due(0, "choice", 20, 2, 2, 1, 0);
        });
    }

    private static void luck() {
        Line.of("Promise 6", "LUCK (what 0), the mean COAL (1), in 16 to the d-th parts", x -> {
            x.due(0, "engine", 10);
            x.due(0, "sails", 0, 10);
            x.due(16, "luck", 10, 1, 1, 0, 0);
            x.due(12, "luck", 10, 1, 1, 0, 1);
            x.due(4096, "luck", 20, 3, 2, 0, 0);
            x.due(TWELVE_DAYS, "luck", 120, 12, 12, 1000, 0);
            x.due(9 * TWELVE_DAYS, "luck", 120, 12, 12, 1000, 1);
        });
        Line.of("Promise 6", "NONE", x -> {
            x.outside(0, 120, -1, "luck", 0, 0, 0, 0, 0, 0);
            x.outside(0, 12, -1, "luck", 1, 0, 0, 0, 0, 0);
            x.outside(0, 12, -1, "luck", 2, 0, 0, 0, 0, 0);
            x.outside(0, 1000, -1, "luck", 3, 0, 0, 0, 0, 0);
            x.outside(0, 1, -1, "luck", 4, 0, 0, 0, 0, 0);
            x.due(-1, "luck", MIN, MIN, MIN, MIN, MIN);
            x.due(-1, "luck", MAX, MAX, MAX, MAX, MAX);
            x.due(1, "luck", 0, 0, 0, 0, 0);
        });
    }

    private static void choice() {
        Line.of("Promise 7", "CHOICE with a WIND (days 1 .. 12)", x -> {
            x.due(0, "engine", 10);
            x.due(0, "sails", 2, 10);
            x.due(1, "choice", 10, 1, 12, 0, 0);
            x.due(0, "choice", 10, 1, 12, 2, 0);
            x.due(1, "choice", 120, 12, 12, 0, 0);
            x.due(0, "choice", 120, 12, 12, 2, 0);
            x.outside(1, 12, -1, "choice", 1, 10, 1, 12, 0, 0);
            x.due(-1, "choice", 0, 0, 0, 0, 0);
        });
        Line.of("Promise 7", "NONE", x -> {
            x.outside(0, 120, -1, "choice", 0, 0, 1, 0, 0, 0);
            x.outside(1, 12, -1, "choice", 1, 0, 1, 0, 0, 0);
            x.outside(0, 12, -1, "choice", 2, 0, 1, 0, 0, 0);
            x.outside(0, 3, -1, "choice", 3, 0, 1, 0, 0, 0);
            x.outside(0, 1000, -1, "choice", 4, 0, 1, 0, 0, 0);
            x.due(-1, "choice", MIN, MIN, MIN, MIN, MIN);
            x.due(-1, "choice", MAX, MAX, MAX, MAX, MAX);
            x.due(0, "choice", 0, 1, 0, 0, 0);
        });
    }

    private static void promise() {
        Line.of("Promise 8", "The fewest days (0 .. 12) for which LUCK is at least n / 16", x -> {
            x.due(0, "promise", 0, 0, 0, 1);
            x.due(0, "promise", 0, 12, 1000, 16);
            x.due(0, "engine", 10);
            x.due(1, "promise", 10, 1, 0, 16);
            x.due(2, "promise", 11, 2, 0, 16);
            x.due(12, "promise", 111, 12, 0, 16);
            x.due(12, "promise", 120, 12, 0, 1);
            x.due(0, "sails", 3, 10);
            // One day: 4 / 16 and no more. Two days: 7 / 16 and no more.
            x.due(1, "promise", 10, 0, 0, 4);
            x.due(2, "promise", 10, 0, 0, 5);
            x.due(2, "promise", 10, 0, 0, 7);
            x.due(3, "promise", 10, 0, 0, 8);
            // Nine days: 16 - 16 * 0.75^9 is 14.8; ten: 15.1.
            x.due(10, "promise", 10, 0, 0, 15);
        });
        Line.of("Promise 8", "NONE (n not 1 .. 16, too)", x -> {
            x.due(-1, "promise", 1, 12, 0, 1);
            x.due(0, "engine", 10);
            x.due(-1, "promise", 120, 11, 0, 1);
            x.due(12, "promise", 120, 12, 0, 1);
            x.due(0, "sails", 3, 10);
            x.due(-1, "promise", 10, 0, 0, 16);
            x.outside(1, 16, -1, "promise", 3, 0, 0, 0, 1);
            x.due(0, "promise", 0, 0, 0, 1);
            x.due(0, "promise", 0, 0, 0, 16);
            x.outside(0, 120, -1, "promise", 0, 0, 0, 0, 1);
            x.outside(0, 12, -1, "promise", 1, 0, 0, 0, 1);
            x.outside(0, 1000, -1, "promise", 2, 0, 0, 0, 1);
            x.due(-1, "promise", MIN, MIN, MIN, MIN);
            x.due(-1, "promise", MAX, MAX, MAX, MAX);
        });
    }
}
