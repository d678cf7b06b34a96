/** The sentences of Term I and of promises 1 to 5: a new object, winds, weight, sails, engine. */
final class WindsEdges {
    private static final int MIN = Integer.MIN_VALUE;
    private static final int MAX = Integer.MAX_VALUE;

    private WindsEdges() {
    }

    static void all() {
        bounds();
        weights();
        speeds();
        refusals();
        newObject();
        winds();
        weight();
        sails();
        engine();
    }

    private static void bounds() {
        Line.of("Term I", "DAYS of knowing 0 .. 1000", x -> {
            x.due(1, "winds", 0, 0, 16, 0, 0);
            x.due(2, "winds", 0, 0, 0, 16, 1000);
            x.outside(0, 1000, -1, "winds", 4, 4, 4, 4, 4, 0);
            x.due(0, "weight", 3, 0);
            x.due(16, "weight", 3, 1000);
            x.outside(0, 1000, -1, "weight", 1, 3, 0);
            x.due(1, "luck", 0, 0, 0, 0, 0);
            x.due(1, "luck", 0, 0, 0, 1000, 0);
            x.outside(0, 1000, -1, "luck", 3, 0, 0, 0, 0, 0);
            x.due(0, "choice", 0, 1, 0, 0, 0);
            x.due(0, "choice", 0, 1, 0, 0, 1000);
            x.outside(0, 1000, -1, "choice", 4, 0, 1, 0, 0, 0);
            x.due(0, "promise", 0, 0, 0, 16);
            x.due(0, "promise", 0, 0, 1000, 16);
            x.outside(0, 1000, -1, "promise", 2, 0, 0, 0, 16);
        });
        Line.of("Term I", "WINDS 0 .. 3", x -> {
            x.due(1, "winds", 1, 2, 3, 10, 0);
            x.due(1, "weight", 0, 0);
            x.due(10, "weight", 3, 0);
            x.outside(0, 3, -1, "weight", 0, 0, 0);
            x.due(0, "sails", 0, 5);
            x.due(0, "sails", 3, 5);
            x.outside(0, 3, -1, "sails", 0, 0, 5);
            x.due(0, "choice", 1, 1, 0, 0, 0);
            x.due(0, "choice", 1, 1, 0, 3, 0);
            x.outside(0, 3, -1, "choice", 3, 1, 1, 0, 0, 0);
        });
    }

    private static void weights() {
        Line.of("Term I", "WEIGHTS of WINDS, 40 at most", x -> {
            for (int i = 0; i < 40; i++) {
                x.due(i + 1, "winds", i % 16, 16 - i % 16, 0, 0, i);
            }
            x.due(-5, "winds", 0, 0, 0, 16, 0);
            x.due(-5, "winds", 16, 0, 0, 0, 1000);
            x.due(40, "count", 0);
            x.due(0, "weight", 0, 0);
            x.due(16, "weight", 1, 0);
            x.due(38 % 16, "weight", 0, 38);
            x.due(39 % 16, "weight", 0, 39);
            x.due(39 % 16, "weight", 0, 1000);
        });
        Line.of("Term I", "four numbers (0 .. 16) that sum to 16", WindsEdges::fourNumbers);
        Line.of("Term I", "known from a DAY on", x -> {
            x.due(1, "winds", 16, 0, 0, 0, 500);
            x.due(4, "weight", 0, 499);
            x.due(16, "weight", 0, 500);
            x.due(16, "weight", 0, 501);
            x.due(16, "weight", 0, 1000);
        });
        Line.of("Term I", "as known on a DAY those count that were told last of those known by then", x -> {
            x.due(1, "winds", 16, 0, 0, 0, 10);
            x.due(2, "winds", 0, 16, 0, 0, 5);
            x.due(4, "weight", 1, 4);
            x.due(16, "weight", 1, 5);
            x.due(16, "weight", 1, 9);
            x.due(16, "weight", 1, 10);
            x.due(0, "weight", 0, 10);
            x.due(3, "winds", 0, 0, 16, 0, 20);
            x.due(16, "weight", 1, 19);
            x.due(16, "weight", 2, 20);
            x.due(4, "winds", 0, 0, 0, 16, 20);
            x.due(16, "weight", 3, 20);
            x.due(16, "weight", 1, 19);
            x.due(5, "winds", 1, 1, 1, 13, 0);
            x.due(13, "weight", 3, 0);
            x.due(13, "weight", 3, 1000);
        });
        Line.of("Term I", "4 each without", x -> {
            for (int wind = 0; wind < 4; wind++) {
                x.due(4, "weight", wind, 0);
                x.due(4, "weight", wind, 1000);
            }
            x.due(1, "winds", 16, 0, 0, 0, 1000);
            for (int wind = 0; wind < 4; wind++) {
                x.due(4, "weight", wind, 999);
            }
        });
    }

    private static void fourNumbers(Line x) {
        x.due(1, "winds", 16, 0, 0, 0, 0);
        x.due(2, "winds", 0, 16, 0, 0, 0);
        x.due(3, "winds", 0, 0, 16, 0, 0);
        x.due(4, "winds", 0, 0, 0, 16, 0);
        for (int place = 0; place < 4; place++) {
            Object[] below = {0, 0, 0, 0, 0};
            below[place] = -1;
            below[(place + 1) % 4] = 16;
            below[(place + 2) % 4] = 1;
            x.due(-1, "winds", below);
            Object[] above = {0, 0, 0, 0, 0};
            above[place] = 17;
            above[(place + 3) % 4] = -1;
            x.due(-1, "winds", above);
        }
        x.due(-1, "winds", 4, 4, 4, 3, 0);
        x.due(-1, "winds", 4, 4, 4, 5, 0);
        x.due(-1, "winds", 0, 0, 0, 0, 0);
        x.due(-1, "winds", 16, 16, 16, 16, 0);
        // These sum to 16 in an int that has wrapped around.
        x.due(-1, "winds", MAX, MAX, 16, 2, 0);
        x.due(-1, "winds", 16, 0, MIN, MIN, 0);
        x.due(-1, "winds", MIN, MAX, 16, 1, 0);
        x.due(-1, "winds", 0x40000004, 0x40000004, 0x40000004, 0x40000004, 0);
        x.due(4, "count", 0);
        x.due(16, "weight", 3, 0);
    }

    private static void speeds() {
        Line.of("Term I", "SAILS: MILES that a day under sails makes in a WIND (0 .. 20; 0 at first)", x -> {
            x.due(0, "luck", 1, 12, 0, 0, 0);
            for (int wind = 0; wind < 4; wind++) {
                x.due(0, "sails", wind, 20);
                x.due(4 * (wind + 1), "luck", 20, 1, 0, 0, 0);
                x.due(0, "luck", 21, 1, 0, 0, 0);
                x.outside(0, 20, -1, "sails", 1, wind, 0);
            }
            for (int wind = 0; wind < 4; wind++) {
                x.due(0, "sails", wind, 0);
                x.due(4 * (3 - wind), "luck", 1, 1, 0, 0, 0);
            }
        });
        Line.of("Term I", "ENGINE: MILES that it makes in a day in any WIND (0 .. 20; 0 at first), for one of COAL", x -> {
            x.due(0, "luck", 1, 12, 12, 0, 0);
            x.due(0, "engine", 20);
            x.due(16, "luck", 20, 1, 1, 0, 0);
            x.due(16, "luck", 20, 1, 1, 0, 1);
            x.due(0, "luck", 21, 1, 1, 0, 0);
            for (int wind = 0; wind < 4; wind++) {
                x.due(1, "choice", 20, 1, 1, wind, 0);
            }
            x.outside(0, 20, -1, "engine", 0, 0);
            x.due(16, "luck", 20, 1, 1, 0, 0);
            x.due(20, "engine", 0);
            x.due(0, "luck", 1, 12, 12, 0, 0);
            x.due(0, "engine", 1);
            x.due(1, "engine", 19);
        });
    }

    private static void refusals() {
        Line.of("Term I", "REFUSED by: -1 a number that can't be", x -> {
            x.due(-1, "winds", 16, 1, 0, 0, 0);
            x.due(-1, "sails", 4, 0);
            x.due(-1, "engine", 21);
            x.due(-1, "load", 0, 0);
            x.due(-1, "berths", 0, 4);
            x.due(-1, "slot", 0, 401, 1);
            x.due(-1, "leg", -1);
            x.due(-1, "aboard", 0, 1, 0);
        });
        Line.of("Term I", "-2 there is no such LOAD, PORT, SLOT, LEG", x -> {
            x.due(0, "load", 1, 1);
            x.due(-2, "apart", 0, 1, true);
            x.due(-2, "apart", 1, 0, true);
            x.due(-2, "berths", 6, 1);
            x.due(-2, "slot", 6, 0, 1);
            x.due(-2, "free", 0);
            x.due(-2, "aboard", 0, 0, 0);
            x.due(0, "leg", 1);
            x.due(-2, "aboard", 1, 0, 0);
            x.due(-2, "aboard", 0, 0, 1);
            x.due(0, "aboard", 0, 0, 0);
        });
        Line.of("Term I", "-3 it can't be", x -> {
            x.due(0, "load", 1, 1);
            x.due(-3, "apart", 0, 0, true);
            x.due(-3, "slot", 0, 400, 2);
            x.due(1, "berths", 0, 2);
            x.due(0, "slot", 0, 0, 1);
            x.due(1, "slot", 0, 0, 1);
            x.due(-3, "berths", 0, 1);
        });
        Line.of("Term I", "-5 no room", x -> {
            x.times(40, i -> x.due(i + 1, "winds", 4, 4, 4, 4, 0));
            x.times(12, i -> x.due(i, "load", 1, 1));
            x.times(10, i -> x.due(i, "leg", 1));
            x.due(-5, "winds", 4, 4, 4, 4, 0);
            x.due(-5, "load", 1, 1);
            x.due(-5, "leg", 1);
        });
        Line.of("Term I", "-6 a text that can't be, there is none", x -> {
            x.faulty(0, ";");
            x.fine(1, "pay 1");
            x.faulty(3, "pay");
            x.due(1, "count", 3);
        });
        order();
    }

    private static void order() {
        Line.of("Term I", "The first of these in that order", x -> {
            x.times(40, i -> x.due(i + 1, "winds", 4, 4, 4, 4, 0));
            x.due(-1, "winds", 4, 4, 4, 3, 0);
            x.due(-1, "winds", 4, 4, 4, 4, 1001);
            x.due(-1, "aboard", 12, 5, 4);
            x.due(-2, "apart", 0, 0, true);
            x.times(12, i -> x.due(i, "load", 1, 1));
            x.due(-1, "load", 0, 0);
            x.due(-1, "load", 1, -1);
            x.due(-2, "apart", 12, 12, true);
            x.due(-2, "apart", -1, -1, false);
            x.times(10, i -> x.due(i, "leg", 1));
            x.due(-1, "leg", 100001);
            x.due(-1, "aboard", 0, 11, 10);
        });
        // A document's sentence on all calls: the SLOTS' part needs an object of its own.
        Line.of("Term I", "The first of these in that order", x -> {
            x.due(1, "berths", 0, 2);
            x.times(60, i -> x.due(i, "slot", i / 2 % 6, i / 12 * 5, 5));
            x.due(-1, "slot", 6, 0, 0);
            x.due(-1, "slot", -1, 401, 1);
            x.due(-1, "slot", 0, 400, 31);
            x.due(-2, "slot", 6, 400, 2);
            x.due(-2, "slot", -1, 0, 1);
            x.due(-3, "slot", 0, 400, 2);
            x.due(-5, "slot", 0, 400, 1);
            x.due(-1, "berths", 6, 4);
            x.due(-1, "berths", 0, 0);
            x.due(-2, "berths", 6, 1);
            x.due(-3, "berths", 0, 1);
        });
    }

    private static void newObject() {
        Line.of("Promise 1", "No LOADS, SLOTS, LEGS", x -> {
            for (int what = 0; what <= 6; what++) {
                x.due(0, "count", what);
            }
            x.due(-2, "smoke", 0);
            x.due(0, "smoke", -1);
            x.due(-1, "part", 0, 0);
            for (int what = 0; what <= 2; what++) {
                x.due(0, "stow", 1000, what);
                x.due(-1, "of", 0, what);
            }
            x.due(-2, "apart", 0, 1, true);
            x.due(-2, "aboard", 0, 0, 0);
            x.due(-2, "free", 0);
            x.due(0, "load", 1, 0);
            x.due(-1, "part", 0, 0);
            x.due(-2, "aboard", 0, 0, 0);
            x.due(0, "leg", 0);
            x.due(0, "slot", 0, 0, 1);
        });
        Line.of("Promise 1", "No LOADS, SLOTS, LEGS", x -> {
            x.due(0, "leg", 7);
            x.due(-2, "aboard", 0, 0, 0);
            x.due(-1, "part", 0, 0);
            x.due(7, "smoke", -1);
        });
    }

    private static void winds() {
        Line.of("Promise 2", "WEIGHTS: how many were told", x -> {
            x.due(1, "winds", 4, 4, 4, 4, 0);
            x.due(2, "winds", 4, 4, 4, 4, 0);
            x.due(-1, "winds", 4, 4, 4, 4, -1);
            x.due(3, "winds", 4, 4, 4, 4, 1000);
            x.due(3, "count", 0);
        });
        Line.of("Promise 2", "-1 (they don't sum to 16)", x -> {
            x.due(-1, "winds", 5, 5, 5, 0, 0);
            x.due(-1, "winds", 5, 5, 5, 2, 0);
            x.due(1, "winds", 5, 5, 5, 1, 0);
            x.due(-1, "winds", MIN, MIN, MIN, MIN, MIN);
            x.due(-1, "winds", MAX, MAX, MAX, MAX, MAX);
        });
        Line.of("Promise 2", "-5", x -> {
            x.times(40, i -> x.due(i + 1, "winds", 0, 0, 0, 16, i));
            x.due(-5, "winds", 16, 0, 0, 0, 0);
            x.due(-1, "winds", 16, 0, 0, 1, 0);
            x.due(-5, "winds", 16, 0, 0, 0, 0);
            x.due(0, "weight", 0, 1000);
        });
    }

    private static void weight() {
        Line.of("Promise 3", "WEIGHT of a WIND as known on a DAY", x -> {
            x.due(1, "winds", 1, 2, 3, 10, 7);
            int[] want = {1, 2, 3, 10};
            for (int wind = 0; wind < 4; wind++) {
                x.due(4, "weight", wind, 6);
                x.due(want[wind], "weight", wind, 7);
            }
        });
        Line.of("Promise 3", "NONE", x -> {
            x.due(-1, "weight", -1, 0);
            x.due(-1, "weight", 4, 0);
            x.due(-1, "weight", 0, -1);
            x.due(-1, "weight", 0, 1001);
            x.due(-1, "weight", MIN, MIN);
            x.due(-1, "weight", MAX, MAX);
        });
    }

    private static void sails() {
        Line.of("Promise 4", "SAILS in a WIND: 0", x -> {
            x.due(0, "sails", 2, 20);
            x.due(0, "sails", 2, 7);
            x.due(4, "luck", 7, 1, 0, 0, 0);
            x.due(0, "luck", 8, 1, 0, 0, 0);
            x.due(0, "sails", 2, 0);
            x.due(0, "luck", 1, 1, 0, 0, 0);
        });
        Line.of("Promise 4", "-1", x -> {
            x.due(0, "sails", 1, 9);
            x.due(-1, "sails", -1, 5);
            x.due(-1, "sails", 4, 5);
            x.due(-1, "sails", 1, -1);
            x.due(-1, "sails", 1, 21);
            x.due(-1, "sails", MIN, MIN);
            x.due(-1, "sails", MAX, MAX);
            x.due(4, "luck", 9, 1, 0, 0, 0);
            x.due(0, "luck", 10, 1, 0, 0, 0);
        });
    }

    private static void engine() {
        Line.of("Promise 5", "ENGINE: what it was", x -> {
            x.due(0, "engine", 20);
            x.due(20, "engine", 20);
            x.due(20, "engine", 0);
            x.due(0, "engine", 13);
            x.due(-1, "engine", 21);
            x.due(13, "engine", 13);
            // And from then on it is what was told.
            x.due(16, "luck", 13, 1, 1, 0, 0);
            x.due(13, "engine", 12);
            x.due(0, "luck", 13, 1, 1, 0, 0);
            x.due(12, "engine", 14);
            x.due(16, "luck", 13, 1, 1, 0, 0);
        });
        Line.of("Promise 5", "-1", x -> {
            x.due(0, "engine", 6);
            x.due(-1, "engine", -1);
            x.due(-1, "engine", 21);
            x.due(-1, "engine", MIN);
            x.due(-1, "engine", MAX);
            x.due(16, "luck", 6, 1, 1, 0, 0);
            x.due(0, "luck", 7, 1, 1, 0, 0);
        });
    }
}
