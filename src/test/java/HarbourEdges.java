/** The sentences of Term IV and of promises 12 to 15: berths, slot, of, free. */
final class HarbourEdges {
    private static final int MIN = Integer.MIN_VALUE;
    private static final int MAX = Integer.MAX_VALUE;

    private HarbourEdges() {
    }

    static void all() {
        bounds();
        slots();
        asked();
        lastDay();
        berths();
        slot();
        of();
        free();
    }

    private static void bounds() {
        Line.of("Term IV", "PORTS 0 .. 5", x -> {
            x.due(1, "berths", 0, 1);
            x.due(1, "berths", 5, 1);
            x.outside(0, 5, -2, "berths", 0, 0, 1);
            x.due(0, "slot", 0, 0, 1);
            x.due(1, "slot", 5, 0, 1);
            x.outside(0, 5, -2, "slot", 0, 0, 0, 1);
            x.place(0, 0, 0, 0, 0);
            x.place(1, 5, 0, 0, 0);
        });
        Line.of("Term IV", "each with 1 to 3 BERTHS (1 at first)", x -> {
            for (int port = 0; port < 6; port++) {
                x.due(1, "berths", port, 3);
                x.due(3, "berths", port, 1);
            }
            x.outside(1, 3, -1, "berths", 1, 0, 1);
            x.due(1, "berths", 4, 3);
            x.times(4, i -> x.due(i, "slot", 4, 7, 1));
            x.place(0, 4, 0, 7, 7);
            x.place(1, 4, 1, 7, 7);
            x.place(2, 4, 2, 7, 7);
            x.place(3, 4, 0, 8, 8);
        });
    }

    private static void slots() {
        Line.of("Term IV", "SLOTS, 60 at most", x -> {
            x.times(60, i -> x.due(i, "slot", i % 6, 0, 30));
            x.due(-5, "slot", 0, 0, 1);
            x.due(-5, "slot", 5, 400, 1);
            x.due(60, "count", 2);
            x.due(60, "count", 6);
            x.due(5, "of", 59, 0);
            x.due(299, "of", 59, 3);
            x.due(-1, "of", 60, 0);
        });
        Line.of("Term IV", "a PORT, a BERTH, from a day to a day (0 .. 400), of a ship", x -> {
            x.due(1, "berths", 3, 2);
            x.due(0, "slot", 3, 0, 2);
            x.due(1, "slot", 3, 0, 3);
            x.due(2, "slot", 3, 400, 1);
            x.outside(0, 400, -1, "slot", 1, 3, 0, 1);
            x.place(0, 3, 0, 0, 1);
            x.place(1, 3, 1, 0, 2);
            x.place(2, 3, 0, 400, 400);
            // The last day is taken, too; the day behind it is not.
            x.due(3, "slot", 3, 1, 1);
            x.place(3, 3, 0, 2, 2);
        });
    }

    private static void asked() {
        Line.of("Term IV", "ASKED for n days (1 .. 30) in a PORT from a day on", x -> {
            x.due(0, "slot", 0, 100, 1);
            x.due(1, "slot", 1, 100, 30);
            x.outside(1, 30, -1, "slot", 2, 2, 100, 1);
            x.place(0, 0, 0, 100, 100);
            x.place(1, 1, 0, 100, 129);
            // Never ahead of the day asked for, though there is room there.
            x.due(2, "slot", 1, 99, 2);
            x.place(2, 1, 0, 130, 131);
            x.due(3, "slot", 1, 99, 1);
            x.place(3, 1, 0, 99, 99);
        });
        Line.of("Term IV", "the SLOT that begins first", x -> {
            x.due(1, "berths", 0, 3);
            x.due(0, "slot", 0, 10, 9);
            x.due(1, "slot", 0, 10, 5);
            x.due(2, "slot", 0, 10, 7);
            // The BERTHS are free again from 19, 15 and 17 on.
            x.due(3, "slot", 0, 10, 20);
            x.place(3, 0, 1, 15, 34);
            x.due(4, "slot", 0, 10, 20);
            x.place(4, 0, 2, 17, 36);
            x.due(5, "slot", 0, 10, 1);
            x.place(5, 0, 0, 19, 19);
        });
        Line.of("Term IV", "of these the lowest BERTH", x -> {
            x.due(1, "berths", 0, 3);
            x.due(0, "slot", 0, 10, 5);
            x.due(1, "slot", 0, 10, 5);
            x.due(2, "slot", 0, 10, 5);
            x.place(0, 0, 0, 10, 14);
            x.place(1, 0, 1, 10, 14);
            x.place(2, 0, 2, 10, 14);
            x.due(3, "slot", 0, 10, 5);
            x.place(3, 0, 0, 15, 19);
            x.due(0, "free", 1);
            x.due(0, "free", 2);
            x.due(4, "slot", 0, 10, 5);
            x.place(4, 0, 1, 10, 14);
        });
        Line.of("Term IV", "with no other SLOT on any of its days", x -> {
            x.due(0, "slot", 2, 10, 5);
            x.due(1, "slot", 2, 20, 5);
            // Between them 15 .. 19 are free: five days fit, six don't.
            x.due(2, "slot", 2, 6, 6);
            x.place(2, 2, 0, 25, 30);
            x.due(3, "slot", 2, 6, 5);
            x.place(3, 2, 0, 15, 19);
            x.due(4, "slot", 2, 6, 4);
            x.place(4, 2, 0, 6, 9);
            // Another PORT's SLOTS are in nobody's way.
            x.due(5, "slot", 3, 6, 30);
            x.place(5, 3, 0, 6, 35);
        });
    }

    private static void lastDay() {
        Line.of("Term IV", "it ends by day 400", x -> {
            x.due(-3, "slot", 0, 400, 2);
            x.due(-3, "slot", 0, 372, 30);
            x.due(0, "slot", 0, 371, 30);
            x.place(0, 0, 0, 371, 400);
            x.due(-3, "slot", 0, 371, 1);
            x.due(-3, "slot", 0, 400, 1);
            x.due(1, "slot", 0, 370, 1);
            x.due(2, "slot", 1, 400, 1);
            x.place(2, 1, 0, 400, 400);
            x.due(1, "berths", 0, 2);
            x.due(3, "slot", 0, 390, 11);
            x.place(3, 0, 1, 390, 400);
        });
        // Put off by SLOTS that are in the way, until it would end on day 401.
        Line.of("Term IV", "it ends by day 400", x -> {
            x.due(0, "slot", 0, 380, 12);
            x.due(-3, "slot", 0, 375, 10);
            x.due(1, "slot", 0, 375, 9);
            x.place(1, 0, 0, 392, 400);
        });
    }

    private static void berths() {
        Line.of("Promise 12", "BERTHS of a PORT: what they were", x -> {
            x.due(1, "berths", 2, 2);
            x.due(2, "berths", 2, 2);
            x.due(2, "berths", 2, 3);
            x.due(3, "berths", 2, 1);
            x.due(1, "berths", 3, 1);
            x.due(-1, "berths", 2, 4);
            x.due(1, "berths", 2, 1);
        });
        Line.of("Promise 12", "-1", x -> {
            x.due(-1, "berths", 0, 0);
            x.due(-1, "berths", 0, 4);
            x.due(-1, "berths", 0, MIN);
            x.due(-1, "berths", 0, MAX);
            x.due(-1, "berths", 6, 0);
            x.due(-1, "berths", MIN, MIN);
            x.due(1, "berths", 0, 1);
        });
        Line.of("Promise 12", "-2", x -> {
            x.due(-2, "berths", -1, 1);
            x.due(-2, "berths", 6, 3);
            x.due(-2, "berths", MIN, 1);
            x.due(-2, "berths", MAX, 1);
        });
        Line.of("Promise 12", "-3 a SLOT is there in one that would go", x -> {
            x.due(1, "berths", 0, 3);
            x.due(1, "berths", 1, 3);
            x.times(3, i -> x.due(i, "slot", 0, 0, 1));
            x.due(-3, "berths", 0, 2);
            x.due(-3, "berths", 0, 1);
            x.due(3, "berths", 0, 3);
            x.due(3, "berths", 1, 1);
            x.due(0, "free", 1);
            x.due(-3, "berths", 0, 1);
            x.due(-3, "berths", 0, 2);
            x.due(0, "free", 2);
            // Only the one in BERTH 0 is left, and that one stays.
            x.due(3, "berths", 0, 1);
            x.due(1, "berths", 0, 2);
            x.due(3, "slot", 0, 0, 1);
            x.place(3, 0, 1, 0, 0);
        });
    }

    private static void slot() {
        Line.of("Promise 13", "A SLOT as ASKED: its number", x -> {
            x.due(0, "slot", 0, 0, 1);
            x.due(-1, "slot", 0, 0, 0);
            x.due(1, "slot", 5, 0, 1);
            x.due(-3, "slot", 0, 400, 2);
            x.due(2, "slot", 0, 0, 1);
            x.due(3, "count", 2);
        });
        Line.of("Promise 13", "-1", x -> {
            x.outside(0, 400, -1, "slot", 1, 0, 0, 1);
            x.outside(1, 30, -1, "slot", 2, 0, 0, 1);
            x.due(-1, "slot", 0, MAX, MAX);
            x.due(-1, "slot", 0, MIN, MAX);
            x.due(-1, "slot", 6, -1, 1);
            x.due(-1, "slot", MIN, MIN, MIN);
            x.due(0, "count", 2);
        });
        Line.of("Promise 13", "-2", x -> {
            x.outside(0, 5, -2, "slot", 0, 0, 0, 1);
            x.due(-2, "slot", 6, 400, 30);
            x.due(0, "count", 2);
        });
        Line.of("Promise 13", "-3 there is none", x -> {
            x.due(0, "slot", 1, 400, 1);
            x.due(-3, "slot", 1, 400, 1);
            x.due(0, "free", 0);
            x.due(1, "slot", 1, 400, 1);
            x.due(-3, "slot", 1, 400, 1);
            x.due(1, "berths", 1, 2);
            x.due(2, "slot", 1, 400, 1);
            x.due(-3, "slot", 1, 400, 1);
            x.due(-3, "slot", 1, 399, 2);
            x.due(3, "slot", 1, 398, 2);
        });
        Line.of("Promise 13", "-5", x -> {
            x.times(60, i -> x.due(i, "slot", 0, 0, 1));
            x.due(-5, "slot", 0, 0, 1);
            x.due(-5, "slot", 1, 0, 30);
            x.due(0, "free", 0);
            x.due(-5, "slot", 0, 0, 1);
            x.due(60, "count", 2);
            x.due(59, "count", 6);
        });
    }

    private static void of() {
        Line.of("Promise 14", "Of a SLOT what 0 PORT, 1 BERTH, 2 first, 3 last day", x -> {
            x.due(1, "berths", 5, 3);
            x.times(3, i -> x.due(i, "slot", 5, 371, 30));
            x.place(0, 5, 0, 371, 400);
            x.place(2, 5, 2, 371, 400);
            x.due(3, "slot", 0, 0, 1);
            x.place(3, 0, 0, 0, 0);
        });
        Line.of("Promise 14", "NONE (given up, too)", x -> {
            x.due(-1, "of", 0, 0);
            x.due(0, "slot", 4, 5, 6);
            x.due(1, "slot", 4, 5, 6);
            x.outside(0, 1, -1, "of", 0, 0, 0);
            x.outside(0, 3, -1, "of", 1, 0, 0);
            x.due(-1, "of", 59, 0);
            x.due(-1, "of", 60, 0);
            x.due(-1, "of", MIN, MIN);
            x.due(0, "free", 0);
            x.place(0, -1, -1, -1, -1);
            x.place(1, 4, 0, 11, 16);
        });
    }

    private static void free() {
        Line.of("Promise 15", "A SLOT is given up (its number is not given again): 0", x -> {
            x.due(0, "slot", 0, 0, 5);
            x.due(1, "slot", 0, 0, 5);
            x.due(0, "free", 1);
            x.due(2, "slot", 0, 0, 5);
            x.place(2, 0, 0, 5, 9);
            x.due(0, "free", 0);
            x.due(3, "slot", 0, 0, 5);
            x.place(3, 0, 0, 0, 4);
            x.due(4, "count", 2);
            x.due(2, "count", 6);
        });
        Line.of("Promise 15", "-2", x -> {
            x.due(-2, "free", 0);
            x.due(0, "slot", 0, 0, 1);
            x.outside(0, 0, -2, "free", 0, 0);
            x.due(-2, "free", 59);
            x.due(-2, "free", 60);
            x.due(1, "count", 6);
            x.due(0, "free", 0);
            x.due(-2, "free", 0);
            x.due(0, "count", 6);
            x.due(1, "count", 2);
        });
        Line.of("Promise 15", "-2", x -> {
            x.times(60, i -> x.due(i, "slot", i % 6, 0, 1));
            x.due(-2, "free", 60);
            x.due(0, "free", 59);
            x.due(-2, "free", 59);
        });
    }
}
