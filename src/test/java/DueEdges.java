/** The sentences of Term V on DUE, and of promise 20. */
final class DueEdges {
    private static final int MIN = Integer.MIN_VALUE;
    private static final int MAX = Integer.MAX_VALUE;

    private DueEdges() {
    }

    static void all() {
        inOrder();
        payAndTons();
        days();
        smoke();
        mostAndLeast();
        due();
    }

    private static void inOrder() {
        String sentence = "DUE of TONS that come on a DAY with so much SMOKE: CLAUSE by CLAUSE in order from 0";
        Line.of("Term V", sentence, x -> {
            x.due(0, "due", 10, 10, 10);
            x.fine(1, "most 5");
            x.due(0, "due", 10, 10, 10);
            x.fine(1, "least 5");
            x.due(5, "due", 10, 10, 10);
            x.fine(3, "pay 10;most 5;pay 1");
            x.due(6, "due", 0, 0, 0);
            x.fine(3, "pay 10;pay 1;most 5");
            x.due(5, "due", 0, 0, 0);
            x.fine(3, "most 5;pay 10;pay 1");
            x.due(11, "due", 0, 0, 0);
        });
        Line.of("Term V", sentence, x -> {
            x.fine(20, "pay1;".repeat(19) + "most1");
            x.due(1, "due", 0, 0, 0);
            x.fine(20, "least9;" + "pay1;".repeat(18) + "pay1");
            x.due(28, "due", 0, 0, 0);
        });
    }

    private static void payAndTons() {
        Line.of("Term V", "pay: so much more", x -> {
            x.fine(1, "pay 0");
            x.due(0, "due", 9, 9, 9);
            x.fine(1, "pay 10000");
            x.due(10000, "due", 9, 9, 9);
            x.fine(2, "pay 3;pay 4");
            x.due(7, "due", 9, 9, 9);
        });
        Line.of("Term V", "per ton: times TONS more", x -> {
            x.fine(1, "per ton 7");
            x.due(0, "due", 0, 9, 9);
            x.due(7, "due", 1, 9, 9);
            x.due(70000, "due", 10000, 9, 9);
            x.fine(1, "per ton 0");
            x.due(0, "due", 10000, 9, 9);
            x.fine(2, "pay 1;per ton 10000");
            x.due(100000001, "due", 10000, 9, 9);
            x.fine(15, "per ton10000;".repeat(14) + "per ton10000");
            x.due(1500000000, "due", 10000, 0, 0);
        });
    }

    private static void days() {
        Line.of("Term V", "late n behind d: n less for each DAY that it came behind d", x -> {
            x.fine(1, "late 7 behind 5");
            x.due(0, "due", 9, 0, 9);
            x.due(0, "due", 9, 4, 9);
            x.due(0, "due", 9, 5, 9);
            x.due(-7, "due", 9, 6, 9);
            x.due(-14, "due", 9, 7, 9);
            x.fine(1, "late 10000 behind 0");
            x.due(0, "due", 9, 0, 9);
            x.due(-100000000, "due", 9, 10000, 9);
            x.fine(1, "late 10000 behind 10000");
            x.due(0, "due", 9, 10000, 9);
            x.fine(10, "late10000behind 0;".repeat(9) + "late10000behind 0");
            x.due(-1000000000, "due", 0, 10000, 0);
        });
        Line.of("Term V", "early n ahead d: n more for each DAY ahead of d", x -> {
            x.fine(1, "early 7 ahead 5");
            x.due(35, "due", 9, 0, 9);
            x.due(7, "due", 9, 4, 9);
            x.due(0, "due", 9, 5, 9);
            x.due(0, "due", 9, 6, 9);
            x.due(0, "due", 9, 10000, 9);
            x.fine(1, "early 10000 ahead 10000");
            x.due(100000000, "due", 9, 0, 9);
            x.due(10000, "due", 9, 9999, 9);
            x.due(0, "due", 9, 10000, 9);
            x.fine(1, "early 7 ahead 0");
            x.due(0, "due", 9, 0, 9);
        });
    }

    private static void smoke() {
        Line.of("Term V", "smoke n below s: n more, if SMOKE is below s for each TON (SMOKE < s TONS)", x -> {
            x.fine(1, "smoke 9 below 4");
            x.due(9, "due", 10, 0, 39);
            x.due(0, "due", 10, 0, 40);
            x.due(0, "due", 10, 0, 41);
            x.due(9, "due", 10, 0, 0);
            x.due(0, "due", 0, 0, 0);
            x.fine(1, "smoke 9 below 0");
            x.due(0, "due", 10000, 0, 0);
            x.fine(1, "smoke 9 below 100");
            x.due(0, "due", 10000, 0, 1000000);
            x.due(9, "due", 10000, 0, 999999);
            x.fine(1, "smoke 9 below 10000");
            x.due(9, "due", 10000, 0, 1000000);
            x.due(9, "due", 101, 0, 1000000);
            x.due(0, "due", 100, 0, 1000000);
        });
    }

    private static void mostAndLeast() {
        Line.of("Term V", "most: no more than that", x -> {
            x.fine(2, "per ton 1;most 5");
            x.due(4, "due", 4, 0, 0);
            x.due(5, "due", 5, 0, 0);
            x.due(5, "due", 6, 0, 0);
            x.fine(2, "late 7 behind 0;most 0");
            x.due(-7, "due", 0, 1, 0);
            x.fine(2, "per ton 2;most 10000");
            x.due(10000, "due", 5000, 0, 0);
            x.due(10000, "due", 5001, 0, 0);
        });
        Line.of("Term V", "least: no less than that", x -> {
            x.fine(2, "per ton 1;least 5");
            x.due(5, "due", 4, 0, 0);
            x.due(5, "due", 5, 0, 0);
            x.due(6, "due", 6, 0, 0);
            x.fine(2, "late 7 behind 0;least 0");
            x.due(0, "due", 0, 1, 0);
            x.fine(1, "least 10000");
            x.due(10000, "due", 0, 0, 0);
        });
        Line.of("Term V", "as it is then", x -> {
            x.fine(2, "least 5;late 7 behind 0");
            x.due(-2, "due", 0, 1, 0);
            x.fine(3, "late 7 behind 0;least 5;most 3");
            x.due(3, "due", 0, 1, 0);
            x.fine(3, "late 7 behind 0;most 3;least 5");
            x.due(5, "due", 0, 1, 0);
            x.fine(4, "pay 9;most 3;pay 9;most 10");
            x.due(10, "due", 0, 0, 0);
        });
    }

    private static void due() {
        String sentence = "DUE of TONS (0 .. 10,000) on a DAY (0 .. 10,000) with SMOKE (0 .. 1,000,000)";
        Line.of("Promise 20", sentence, x -> {
            x.fine(3, "per ton 1;late 1 behind 5;smoke 3 below 200");
            x.due(0, "due", 0, 0, 0);
            x.due(10000 - 9995 + 3, "due", 10000, 10000, 1000000);
            x.due(10000 + 3, "due", 10000, 0, 0);
            x.due(-9995, "due", 0, 10000, 0);
            x.due(0, "due", 0, 0, 1000000);
        });
        Line.of("Promise 20", "NONE for numbers that can't be", x -> {
            x.fine(1, "pay 5");
            x.outside(0, 10000, -1, "due", 0, 0, 0, 0);
            x.outside(0, 10000, -1, "due", 1, 0, 0, 0);
            x.outside(0, 1000000, -1, "due", 2, 0, 0, 0);
            x.due(-1, "due", MIN, MIN, MIN);
            x.due(-1, "due", MAX, MAX, MAX);
            x.due(5, "due", 0, 0, 0);
            x.due(5, "due", 10000, 10000, 1000000);
        });
        Line.of("Promise 20", "NONE for numbers that can't be", x -> {
            x.due(-1, "due", -1, 0, 0);
            x.due(-1, "due", 0, 10001, 0);
            x.due(0, "due", 0, 0, 0);
        });
        Line.of("Promise 20", "(it may be below 0)", x -> {
            x.fine(1, "late 1 behind 0");
            x.due(-1, "due", 0, 1, 0);
            x.due(-2, "due", 0, 2, 0);
            x.due(-10000, "due", 0, 10000, 0);
        });
    }
}
