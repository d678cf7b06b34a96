/** The sentences of Term III and of promises 9 to 11: load, apart, stow. */
final class HoldEdges {
    private static final int MIN = Integer.MIN_VALUE;
    private static final int MAX = Integer.MAX_VALUE;

    private HoldEdges() {
    }

    static void all() {
        bounds();
        apartInTerms();
        stowed();
        alike();
        load();
        apart();
        stow();
    }

    private static void bounds() {
        Line.of("Term III", "LOADS 0 .. 11 (12 at most)", x -> {
            x.times(12, i -> x.due(i, "load", 1, 1));
            x.due(-5, "load", 1, 1);
            x.due(12, "count", 1);
            x.due(4095, "stow", 12, 0);
            x.due(0, "apart", 11, 0, false);
            x.due(-2, "apart", 12, 0, false);
            x.due(0, "leg", 5);
            x.due(0, "aboard", 11, 0, 0);
            x.due(-2, "aboard", 12, 0, 0);
            x.due(5, "smoke", 11);
            x.due(-2, "smoke", 12);
            x.due(5, "part", 11, 0);
            x.due(-1, "part", 12, 0);
        });
        Line.of("Term III", "TONS (1 .. 200)", x -> {
            x.due(0, "load", 1, 5);
            x.due(1, "load", 200, 5);
            x.outside(1, 200, -1, "load", 0, 1, 5);
            x.due(201, "stow", 1000, 1);
            x.due(1, "stow", 200, 1);
            x.due(2, "count", 1);
        });
        Line.of("Term III", "WORTH (0 .. 10,000)", x -> {
            x.due(0, "load", 5, 0);
            x.due(1, "load", 5, 10000);
            x.outside(0, 10000, -1, "load", 1, 5, 0);
            x.due(10000, "stow", 1000, 2);
            x.due(2, "stow", 1000, 0);
            x.due(2, "count", 1);
        });
    }

    private static void apartInTerms() {
        Line.of("Term III", "two of them may be APART (not in one ship)", x -> {
            x.times(3, i -> x.due(i, "load", 1, 5 + i));
            x.due(7, "stow", 3, 0);
            x.due(0, "apart", 0, 2, true);
            x.due(6, "stow", 3, 0);
            x.due(0, "apart", 1, 2, true);
            // 0 and 1 together are worth 11, 2 alone 7.
            x.due(3, "stow", 3, 0);
            x.due(0, "apart", 1, 0, true);
            x.due(4, "stow", 3, 0);
        });
        Line.of("Term III", "two of them may be APART (not in one ship)", x -> {
            x.times(12, i -> x.due(i, "load", 1, 1 + i));
            for (int load = 1; load < 12; load++) {
                x.due(0, "apart", load, load - 1, true);
            }
            // Every second one, from 11 down: worth 12 + 10 + 8 + 6 + 4 + 2.
            x.due(0b101010101010, "stow", 1000, 0);
            x.due(42, "stow", 1000, 2);
        });
    }

    private static void stowed() {
        Line.of("Term III", "STOWED for so many TONS (0 .. 1000)", x -> {
            for (int what = 0; what <= 2; what++) {
                x.due(0, "stow", 0, what);
                x.due(0, "stow", 1000, what);
            }
            x.times(12, i -> x.due(i, "load", 200, 10000));
            x.due(31, "stow", 1000, 0);
            x.due(1000, "stow", 1000, 1);
            x.due(50000, "stow", 1000, 2);
            x.due(15, "stow", 999, 0);
            x.due(0, "stow", 199, 0);
            x.due(0, "stow", 0, 0);
            x.outside(0, 1000, -1, "stow", 0, 0, 0);
            x.outside(0, 1000, -1, "stow", 0, 0, 2);
        });
        Line.of("Term III", "the LOADS with the greatest WORTH together that are no more than these, none APART", x -> {
            x.due(0, "load", 10, 60);
            x.due(1, "load", 6, 35);
            x.due(2, "load", 5, 30);
            x.due(0, "stow", 4, 0);
            x.due(4, "stow", 5, 0);
            x.due(2, "stow", 6, 0);
            x.due(1, "stow", 10, 0);
            // 11 TONS: 1 and 2 together are worth 65, though 0 is worth the most of all.
            x.due(6, "stow", 11, 0);
            x.due(11, "stow", 11, 1);
            x.due(65, "stow", 11, 2);
            x.due(5, "stow", 15, 0);
            x.due(7, "stow", 21, 0);
            x.due(0, "apart", 1, 2, true);
            x.due(1, "stow", 11, 0);
            x.due(3, "stow", 21, 0);
            x.due(95, "stow", 1000, 2);
        });
    }

    private static void alike() {
        Line.of("Term III", "of alike ones the fewest TONS", x -> {
            x.due(0, "load", 3, 10);
            x.due(1, "load", 2, 10);
            x.due(2, "stow", 3, 0);
            x.due(2, "stow", 3, 1);
            x.due(2, "load", 1, 0);
            x.due(2, "stow", 3, 0);
            x.due(0, "stow", 1, 0);
        });
        Line.of("Term III", "of alike ones the fewest TONS", x -> {
            x.due(0, "load", 3, 10);
            x.due(1, "load", 1, 5);
            x.due(2, "load", 1, 5);
            // Of 10 WORTH both, and the lower bits have more TONS.
            x.due(0, "apart", 0, 1, true);
            x.due(0, "apart", 0, 2, true);
            x.due(6, "stow", 3, 0);
            x.due(2, "stow", 3, 1);
        });
        Line.of("Term III", "then the lowest bits", x -> {
            for (int tons = 1; tons <= 4; tons++) {
                x.due(tons - 1, "load", tons, tons);
            }
            // 5 TONS: loads 1 and 2 (bits 6), or 0 and 3 (bits 9).
            x.due(6, "stow", 5, 0);
            x.due(0, "apart", 1, 2, true);
            x.due(9, "stow", 5, 0);
            // 3 TONS: loads 0 and 1 (bits 3), or 2 (bits 4).
            x.due(3, "stow", 3, 0);
        });
        Line.of("Term III", "then the lowest bits", x -> {
            x.times(12, i -> x.due(i, "load", 7, 9));
            x.due(1, "stow", 7, 0);
            x.due(3, "stow", 20, 0);
            x.due(2047, "stow", 83, 0);
            x.due(4095, "stow", 84, 0);
        });
    }

    private static void load() {
        Line.of("Promise 9", "A LOAD: its number", x -> {
            x.due(0, "load", 1, 0);
            x.due(-1, "load", 0, 0);
            x.due(1, "load", 1, 0);
            x.due(2, "count", 1);
        });
        Line.of("Promise 9", "-1", x -> {
            x.due(-1, "load", 0, 5);
            x.due(-1, "load", 201, 5);
            x.due(-1, "load", 5, -1);
            x.due(-1, "load", 5, 10001);
            x.due(-1, "load", MIN, MIN);
            x.due(-1, "load", MAX, MAX);
            x.due(-1, "load", MIN, 5);
            x.due(-1, "load", 5, MAX);
            x.due(0, "count", 1);
        });
        Line.of("Promise 9", "-5", x -> {
            x.times(12, i -> x.due(i, "load", 200, 10000));
            x.due(-5, "load", 1, 0);
            x.due(-5, "load", 200, 10000);
            x.due(-1, "load", 201, 10000);
            x.due(12, "count", 1);
        });
    }

    private static void apart() {
        Line.of("Promise 10", "Two LOADS are APART, or not any more: 0", x -> {
            x.times(2, i -> x.due(i, "load", 1, 1));
            x.due(0, "apart", 0, 1, false);
            x.due(3, "stow", 2, 0);
            x.due(0, "apart", 0, 1, true);
            x.due(0, "apart", 1, 0, true);
            x.due(1, "stow", 2, 0);
            x.due(0, "apart", 1, 0, false);
            x.due(3, "stow", 2, 0);
            x.due(0, "apart", 1, 0, true);
            x.due(0, "apart", 0, 1, false);
            x.due(3, "stow", 2, 0);
        });
        Line.of("Promise 10", "-2", x -> {
            x.due(-2, "apart", 0, 1, true);
            x.times(2, i -> x.due(i, "load", 1, 1));
            x.outside(0, 1, -2, "apart", 0, 0, 1, true);
            x.outside(0, 1, -2, "apart", 1, 0, 1, true);
            x.due(-2, "apart", 2, 2, true);
            x.due(-2, "apart", -1, -1, true);
            x.due(-2, "apart", 11, 0, false);
            x.due(-2, "apart", 33, 0, true);
            x.due(3, "stow", 2, 0);
        });
        Line.of("Promise 10", "-3 one with itself", x -> {
            x.times(12, i -> x.due(i, "load", 1, 1));
            x.due(-3, "apart", 0, 0, true);
            x.due(-3, "apart", 0, 0, false);
            x.due(-3, "apart", 11, 11, true);
            x.due(4095, "stow", 12, 0);
        });
    }

    private static void stow() {
        Line.of("Promise 11", "STOWED: LOADS as bits (what 0), their TONS (1), WORTH (2)", x -> {
            x.times(12, i -> x.due(i, "load", 10 + i, 100 + i));
            x.due(4095, "stow", 1000, 0);
            x.due(186, "stow", 1000, 1);
            x.due(1266, "stow", 1000, 2);
            x.due(1, "stow", 10, 0);
            x.due(10, "stow", 10, 1);
            x.due(100, "stow", 10, 2);
        });
        Line.of("Promise 11", "NONE", x -> {
            x.due(0, "load", 1, 1);
            x.outside(0, 1000, -1, "stow", 0, 1, 0);
            x.outside(0, 2, -1, "stow", 1, 1, 0);
            x.due(-1, "stow", MIN, MIN);
            x.due(-1, "stow", MAX, MAX);
            x.due(1, "stow", 1, 0);
        });
    }
}
