/** The sentences of "What it is", the document's first lines. */
final class WhatItIsEdges {
    private static final String SECTION = "What it is";
    private static final int[] WEIGHTS = {5, 1, 7, 3};
    private static final int[] SAILS = {0, 3, 6, 13};
    private static final int ENGINE = 8;

    private WhatItIsEdges() {
    }

    static void all() {
        exactly();
        Line.of(SECTION, "by the best choice of each day between sails, engine and waiting", WhatItIsEdges::choices);
        knownDays();
        theRest();
        Line.of(SECTION, "the smoke of each leg parted among all that was aboard, to the last ton",
                WhatItIsEdges::lastTon);
        lastCall();
    }

    private static void exactly() {
        String sentence = "A line of sailing cargo ships with a small engine: the chance of coming in time told exactly";
        Line.of(SECTION, sentence, x -> {
            x.due(1, "winds", 1, 15, 0, 0, 0);
            x.due(0, "sails", 0, 1);
            long never = 1;
            for (int days = 1; days <= 12; days++) {
                never *= 15;
                // WIND 0 on every day; on all of them or all but one; on one of them at least.
                x.due(1, "luck", days, days, 0, 0, 0);
                x.due(1 + 15 * days, "luck", days - 1, days, 0, 0, 0);
                x.due((1L << 4 * days) - never, "luck", 1, days, 0, 0, 0);
            }
        });
    }

    /** LUCK and the mean COAL of a day are those of the days behind it, if each WIND's CHOICE is followed. */
    private static void choices(Line x) {
        x.due(1, "winds", WEIGHTS[0], WEIGHTS[1], WEIGHTS[2], WEIGHTS[3], 0);
        for (int wind = 0; wind < 4; wind++) {
            x.due(0, "sails", wind, SAILS[wind]);
        }
        x.due(0, "engine", ENGINE);
        int[][] asked = {{1, 1, 1}, {9, 1, 1}, {9, 2, 1}, {16, 2, 1}, {16, 2, 2}, {21, 3, 1}, {25, 3, 2}, {30, 4, 3},
            {44, 5, 3}, {60, 8, 4}, {90, 12, 9}, {120, 12, 12}, {17, 3, 0}};
        for (int[] one : asked) {
            long chance = 0;
            long burnt = 0;
            for (int wind = 0; wind < 4; wind++) {
                long choice = x.ask("choice", one[0], one[1], one[2], wind, 0);
                int made = choice == 1 ? ENGINE : choice == 0 ? SAILS[wind] : 0;
                int coal = choice == 1 ? 1 : 0;
                int left = Math.max(0, one[0] - made);
                chance += WEIGHTS[wind] * x.ask("luck", left, one[1] - 1, one[2] - coal, 0, 0);
                burnt += WEIGHTS[wind] * x.ask("luck", left, one[1] - 1, one[2] - coal, 0, 1);
                burnt += WEIGHTS[wind] * coal * (1L << 4 * (one[1] - 1));
            }
            x.due(chance, "luck", one[0], one[1], one[2], 0, 0);
            x.due(burnt, "luck", one[0], one[1], one[2], 0, 1);
        }
    }

    private static void knownDays() {
        Line.of(SECTION, "as winds are known on any day", x -> {
            x.due(0, "sails", 0, 10);
            x.due(1, "winds", 16, 0, 0, 0, 700);
            x.due(2, "winds", 1, 15, 0, 0, 300);
            // The later day first: what is asked of one day changes nothing of another.
            for (int round = 0; round < 2; round++) {
                x.due(1, "luck", 10, 1, 0, 1000, 0);
                x.due(1, "luck", 10, 1, 0, 300, 0);
                x.due(4, "luck", 10, 1, 0, 299, 0);
                x.due(4, "luck", 10, 1, 0, 0, 0);
            }
        });
    }

    private static void theRest() {
        Line.of(SECTION, "the load of most worth", x -> {
            x.due(0, "load", 9, 70);
            x.due(1, "load", 6, 40);
            x.due(2, "load", 5, 35);
            x.due(6, "stow", 11, 0);
            x.due(75, "stow", 11, 2);
        });
        Line.of(SECTION, "ports' slots", x -> {
            x.due(0, "slot", 1, 10, 3);
            x.due(1, "slot", 1, 10, 3);
            x.place(0, 1, 0, 10, 12);
            x.place(1, 1, 0, 13, 15);
        });
        Line.of(SECTION, "contracts in a small language", x -> {
            x.fine(3, "per ton 5; late 2 behind 30; least 0");
            x.due(46, "due", 10, 32, 0);
            x.faulty(4, "per 5");
            x.due(46, "due", 10, 32, 0);
        });
    }

    /** Whatever is ABOARD: the parts of a LEG are its SMOKE, and all LOADS' and the line's own are all LEGS'. */
    private static void lastTon(Line x) {
        int[] tons = {1, 7, 200, 13, 13, 99};
        int[] smoke = {1, 99999, 100000, 17, 0};
        for (int load = 0; load < tons.length; load++) {
            x.due(load, "load", tons[load], 0);
        }
        long all = 0;
        for (int leg = 0; leg < smoke.length; leg++) {
            x.due(leg, "leg", smoke[leg]);
            all += smoke[leg];
        }
        for (int load = 0; load < tons.length; load++) {
            x.due(0, "aboard", load, 1 + load % 2, 2 + load % 3);
            long parted = x.ask("smoke", -1);
            for (int other = 0; other < tons.length; other++) {
                parted += x.ask("smoke", other);
            }
            Check.same("all LEGS' SMOKE with " + (load + 1) + " ABOARD", parted, all);
        }
        for (int leg = 1; leg < smoke.length; leg++) {
            long parted = 0;
            for (int load = 0; load < tons.length; load++) {
                parted += x.ask("part", load, leg);
            }
            Check.same("SMOKE of LEG " + leg, parted, smoke[leg]);
        }
    }

    /** The 512th call is still answered as the first; the later ones end, whatever they answer. */
    private static void lastCall() {
        Document.name(SECTION, "An object is used for at most 512 calls after it has been made");
        SailCargo x = new SailCargo();
        x.load(5, 6);
        for (int call = 2; call < 512; call++) {
            Check.same("call " + call, x.stow(5, 2), 6);
        }
        Check.same("the 512th call", x.load(5, 6), 1);
        Document.name(SECTION, "what later calls answer is free");
        for (int call = 513; call < 600; call++) {
            x.winds(4, 4, 4, 4, 0);
            x.load(1, 1);
            x.leg(1);
            x.slot(0, 0, 30);
            x.feed(call, call, call, call, call);
            x.luck(120, 12, 12, 0, 1);
        }
    }
}
