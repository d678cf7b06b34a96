/** The sentences of promises 25 and 26, count and status, and of the constants. */
final class StatusEdges {
    private static final int MIN = Integer.MIN_VALUE;
    private static final int MAX = Integer.MAX_VALUE;

    private StatusEdges() {
    }

    static void all() {
        counts();
        full();
        others();
        status();
        aheadOfAny();
        Line.of("The constants", "`NONE = -1`: There is none", x -> {
            Check.same("NONE", SailCargo.NONE, -1);
            x.due(SailCargo.NONE, "fault");
        });
    }

    private static void counts() {
        String sentence = "0 WEIGHTS told, 1 LOADS, 2 SLOTS told, 3 CLAUSES, 4 LEGS, 5 bytes of the TAPE, "
                + "6 SLOTS that are not given up";
        Line.of("Promise 25", sentence, x -> {
            row(x, 0, 0, 0, 0, 0, 0, 0);
            x.due(1, "winds", 4, 4, 4, 4, 0);
            row(x, 1, 0, 0, 0, 0, 0, 0);
            x.times(2, i -> x.due(i, "load", 1, 1));
            x.times(5, i -> x.due(i, "slot", 0, 0, 1));
            row(x, 1, 2, 5, 0, 0, 0, 5);
            x.due(0, "free", 4);
            x.due(-2, "free", 4);
            x.due(0, "free", 0);
            x.fine(4, "pay 1;pay 2;pay 3;pay 4");
            x.times(6, i -> x.due(i, "leg", 1));
            x.type("late 10");
            row(x, 1, 2, 5, 4, 6, 7, 3);
            x.due(-6, "contract");
            row(x, 1, 2, 5, 4, 6, 0, 3);
        });
    }

    private static void row(Line x, int... want) {
        for (int what = 0; what < want.length; what++) {
            x.due(want[what], "count", what);
        }
    }

    private static void full() {
        String sentence = "0 WEIGHTS told, 1 LOADS, 2 SLOTS told, 3 CLAUSES, 4 LEGS, 5 bytes of the TAPE, "
                + "6 SLOTS that are not given up";
        Line.of("Promise 25", sentence, x -> {
            x.times(40, i -> x.due(i + 1, "winds", 4, 4, 4, 4, 0));
            x.times(12, i -> x.due(i, "load", 1, 1));
            x.times(10, i -> x.due(i, "leg", 1));
            x.fine(20, "pay1;".repeat(19) + "pay1");
            x.type("x".repeat(200));
            row(x, 40, 12, 0, 20, 10, 200, 0);
            x.due(-5, "winds", 4, 4, 4, 4, 0);
            x.due(-5, "load", 1, 1);
            x.due(-5, "leg", 1);
            x.due(-1, "feed", 0, 0, 0, 0, 0);
            row(x, 40, 12, 0, 20, 10, 200, 0);
        });
        Line.of("Promise 25", sentence, x -> {
            x.times(60, i -> x.due(i, "slot", 1, 0, 1));
            row(x, 0, 0, 60, 0, 0, 0, 60);
            x.due(-5, "slot", 1, 0, 1);
            x.due(0, "free", 59);
            row(x, 0, 0, 60, 0, 0, 0, 59);
        });
    }

    private static void others() {
        Line.of("Promise 25", "NONE for others", x -> {
            x.outside(0, 6, -1, "count", 0, 0);
            x.due(-1, "count", MIN + 1);
            x.due(-1, "count", MAX - 1);
            row(x, 0, 0, 0, 0, 0, 0, 0);
        });
    }

    private static void status() {
        String sentence = "What the latest call of winds, sails, engine, load, apart, berths, slot, free, contract, "
                + "leg, aboard was REFUSED by";
        Object[][] refused = {{-1, "winds", 4, 4, 4, 3, 0}, {-1, "sails", 4, 0}, {-1, "engine", -1}, {-1, "load", 0, 0},
            {-2, "apart", 2, 0, true}, {-3, "apart", 1, 1, true}, {-1, "berths", 0, 0}, {-2, "berths", 6, 1},
            {-1, "slot", 0, 0, 0}, {-2, "slot", 6, 0, 1}, {-3, "slot", 0, 400, 2}, {-2, "free", 0}, {-6, "contract"},
            {-1, "leg", -1}, {-1, "aboard", 0, 1, 0}, {-2, "aboard", 0, 0, 9}};
        for (Object[] call : refused) {
            Line.of("Promise 26", sentence, x -> {
                x.times(2, i -> x.due(i, "load", 1, 1));
                x.due(0, "leg", 1);
                x.type("x");
                make(x, call);
                x.due((Integer) call[0], "status");
                quiet(x);
                x.due((Integer) call[0], "status");
            });
        }
    }

    /** Calls that status() does not tell of, refused and not: Line looks at it behind each of them. */
    private static void quiet(Line x) {
        x.due(4, "weight", 0, 0);
        x.due(-1, "weight", 9, 0);
        x.due(0, "luck", 1, 1, 1, 0, 0);
        x.due(-1, "luck", -1, 0, 0, 0, 0);
        x.due(0, "choice", 1, 1, 1, 1, 1);
        x.due(-1, "choice", 1, 0, 1, 1, 1);
        x.due(-1, "promise", 1, 1, 1, 1);
        x.due(-1, "promise", 1, 1, 1, 0);
        x.due(3, "stow", 2, 0);
        x.due(-1, "stow", -1, 0);
        x.due(-1, "of", 0, 0);
        x.due(0, "end", 0);
        x.due(-1, "end", 1);
        x.due(20, "feed", 0, 0, 0, 0, 0);
        x.due(0, "due", 1, 1, 1);
        x.due(-1, "due", -1, 1, 1);
        x.due(0, "part", 0, 0);
        x.due(-1, "part", 9, 0);
        x.due(0, "smoke", 0);
        x.due(-2, "smoke", 9);
        x.due(0, "count", 0);
        x.due(-1, "count", 9);
    }

    private static void aheadOfAny() {
        Line.of("Promise 26", "0 if it was not, or ahead of any", x -> {
            x.due(0, "status");
            x.due(-1, "weight", 9, 0);
            x.due(-1, "luck", -1, 0, 0, 0, 0);
            x.due(-1, "stow", -1, 0);
            x.due(-1, "of", 0, 0);
            x.due(-1, "end", 1);
            x.due(-1, "part", 0, 0);
            x.due(-2, "smoke", 0);
            x.due(-1, "count", 7);
            x.due(0, "status");
        });
        Object[][] taken = {{1, "winds", 4, 4, 4, 4, 0}, {0, "sails", 3, 0}, {0, "engine", 7}, {2, "load", 1, 1},
            {0, "apart", 0, 1, true}, {1, "berths", 0, 3}, {1, "slot", 0, 0, 1}, {0, "free", 0}, {0, "contract"},
            {1, "leg", 1}, {0, "aboard", 0, 0, 0}};
        Object[][] refused = {{-1, "engine", 21}, {-2, "free", 9}, {-3, "apart", 0, 0, true}};
        for (Object[] call : taken) {
            Line.of("Promise 26", "0 if it was not, or ahead of any", x -> {
                x.times(2, i -> x.due(i, "load", 1, 1));
                x.due(0, "leg", 1);
                x.due(0, "slot", 0, 0, 1);
                int which = call.length % 3;
                make(x, refused[which]);
                x.due((Integer) refused[which][0], "status");
                make(x, call);
                x.due(0, "status");
            });
        }
    }

    private static void make(Line x, Object[] call) {
        Object[] args = new Object[call.length - 2];
        System.arraycopy(call, 2, args, 0, args.length);
        x.due((Integer) call[0], (String) call[1], args);
    }
}
