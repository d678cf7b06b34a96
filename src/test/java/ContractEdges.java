/** The sentences of Term V on the TEXT, and of promises 16 to 19: feed, end, contract, fault. */
final class ContractEdges {
    private static final int MIN = Integer.MIN_VALUE;
    private static final int MAX = Integer.MAX_VALUE;
    private static final int BLANKS = 0x20202020;

    private ContractEdges() {
    }

    static void all() {
        length();
        tokens();
        everyByte();
        clauses();
        numbers();
        faults();
        twentyClauses();
        feed();
        end();
        contract();
        fault();
    }

    private static void length() {
        Line.of("Term V", "A CONTRACT is a TEXT of at most 200 bytes", x -> {
            x.fine(1, "pay 7" + " ".repeat(195));
            x.fine(1, " ".repeat(195) + "pay 7");
            x.due(7, "due", 0, 0, 0);
            x.fine(1, "pay " + "0".repeat(195) + "7");
            x.due(7, "due", 0, 0, 0);
            x.faulty(199, " ".repeat(199) + ";");
            x.faulty(0, "z".repeat(200));
        });
        Line.of("Term V", "A CONTRACT is a TEXT of at most 200 bytes", x -> {
            x.type(" ".repeat(195) + "pay 7");
            x.due(-1, "feed", 0, 0, 0, 0, 0);
            x.due(200, "count", 5);
            x.due(1, "contract");
            x.fine(0, "");
        });
    }

    private static void tokens() {
        Line.of("Term V", "any blanks (32) between TOKENS", x -> {
            x.fine(1, "pay5");
            x.fine(2, "pay5;pay6");
            x.fine(2, "  pay   5  ;   pay 6  ");
            x.fine(1, "late1behind2");
            x.fine(1, "late  1  behind  2");
            x.faulty(0, "perton3");
            x.faulty(0, "p ay 3");
            x.faulty(6, "pay 1 2");
            x.faulty(0, "\tpay 3");
            x.faulty(3, "pay\n3");
            x.faulty(3, "pay\u00a03");
        });
        Line.of("Term V", "(longest rows of letters a .. z, of digits, single other bytes)", x -> {
            x.faulty(0, "paya 1");
            x.faulty(0, "payz 1");
            x.faulty(3, "pay`1");
            x.faulty(3, "pay{1");
            x.faulty(3, "payA1");
            x.faulty(3, "payZ1");
            x.fine(1, "pay 0909");
            x.faulty(5, "pay 1/");
            x.faulty(5, "pay 1:");
        });
        Line.of("Term V", "(longest rows of letters a .. z, of digits, single other bytes)", x -> {
            x.faulty(6, "pay 1;;");
            x.faulty(0, ";;pay 1");
            x.faulty(0, "Pay 1");
            x.faulty(4, "pay -1");
            x.faulty(4, "pay .1");
            x.faulty(5, "pay 1.5");
            x.faulty(5, "pay 1pay 2");
            x.faulty(4, "pay pay 2");
        });
    }

    /** What each of the 256 bytes makes of "pay 1" behind it, and of "pay" and "1" around it. */
    private static void everyByte() {
        for (char value = 0; value < 256; value++) {
            char c = value;
            Line.of("Term V", "(longest rows of letters a .. z, of digits, single other bytes)", x -> {
                if (c >= '0' && c <= '9') {
                    x.fine(1, "pay 1" + c);
                    x.due(10 + c - '0', "due", 0, 0, 0);
                    x.fine(1, "pay" + c + "1");
                    x.due(10 * (c - '0') + 1, "due", 0, 0, 0);
                } else if (c == ' ') {
                    x.fine(1, "pay 1" + c);
                    x.fine(1, "pay" + c + "1");
                } else {
                    x.faulty(c == ';' ? 6 : 5, "pay 1" + c);
                    x.faulty(c >= 'a' && c <= 'z' ? 0 : 3, "pay" + c + "1");
                }
            });
        }
    }

    private static void clauses() {
        Line.of("Term V", "CLAUSE {\";\" CLAUSE}. CLAUSE: \"pay\" NUMBER", x -> {
            x.fine(1, "pay 1");
            x.fine(2, "pay 1;pay 2");
            x.faulty(0, ";pay 1");
            x.faulty(6, "pay 1;;pay 2");
            x.faulty(6, "pay 1 pay 2");
            x.faulty(6, "pay 1;");
            x.faulty(5, "pay 1,pay 2");
            x.faulty(3, "pay");
            x.faulty(4, "pay x");
            x.faulty(0, "pa 1");
            x.faulty(0, "pays 1");
            x.faulty(0, "1");
        });
        Line.of("Term V", "\"per\" \"ton\" NUMBER", x -> {
            x.fine(1, "per ton 1");
            x.faulty(3, "per");
            x.faulty(4, "per 1");
            x.faulty(4, "per to 1");
            x.faulty(4, "per tons 1");
            x.faulty(7, "per ton");
            x.faulty(8, "per ton ton 1");
            x.faulty(0, "ton 1");
        });
        two("\"late\" NUMBER \"behind\" DAY", "late", "behind", "ahead", "below");
        two("\"early\" NUMBER \"ahead\" DAY", "early", "ahead", "behind", "below");
        two("\"smoke\" NUMBER \"below\" NUMBER", "smoke", "below", "behind", "ahead");
        one("\"most\" NUMBER", "most");
        one("\"least\" NUMBER", "least");
    }

    private static void two(String sentence, String first, String between, String... wrong) {
        int at = first.length() + 3;
        int behind = at + between.length();
        Line.of("Term V", sentence, x -> {
            x.fine(1, first + " 1 " + between + " 2");
            x.faulty(at - 3, first);
            x.faulty(at - 2, first + " " + between + " 2");
            x.faulty(at - 1, first + " 1");
            x.faulty(at - 1, first + " 1;pay 1");
            x.faulty(at, first + " 1 2");
            x.faulty(behind, first + " 1 " + between);
            x.faulty(behind + 1, first + " 1 " + between + " x");
            x.faulty(behind + 2, first + " 1 " + between + " 2x");
        });
        for (String other : wrong) {
            Line.of("Term V", sentence, x -> x.faulty(at, first + " 1 " + other + " 2"));
        }
        Line.of("Term V", sentence, x -> x.faulty(0, between + " 1"));
    }

    private static void one(String sentence, String word) {
        int at = word.length();
        Line.of("Term V", sentence, x -> {
            x.fine(1, word + " 1");
            x.faulty(at, word);
            x.faulty(at + 1, word + " " + word);
            x.faulty(at + 3, word + " 1 behind 2");
            x.faulty(0, word + "s 1");
        });
    }

    private static void numbers() {
        String[] shapes = {"pay #", "per ton #", "late # behind 1", "late 1 behind #", "early # ahead 1",
            "early 1 ahead #", "smoke # below 1", "smoke 1 below #", "most #", "least #"};
        for (String shape : shapes) {
            int at = shape.indexOf('#');
            Line.of("Term V", "NUMBERS, DAYS to 10,000", x -> {
                x.fine(1, shape.replace("#", "0"));
                x.fine(1, shape.replace("#", "10000"));
                x.faulty(at, shape.replace("#", "10001"));
                x.faulty(at, shape.replace("#", "100000"));
                x.faulty(at, shape.replace("#", "-1"));
                // One more than 2 to the 31st, the 32nd and the 64th.
                x.faulty(at, shape.replace("#", "2147483649"));
                x.faulty(at, shape.replace("#", "4294967297"));
                x.faulty(at, shape.replace("#", "18446744073709551617"));
                x.faulty(at, shape.replace("#", "9".repeat(100)));
            });
        }
        Line.of("Term V", "NUMBERS, DAYS to 10,000", x -> {
            x.fine(1, "pay 000010000");
            x.due(10000, "due", 0, 0, 0);
            x.faulty(4, "pay 000010001");
        });
    }

    private static void faults() {
        Line.of("Term V", "FAULT: the first TOKEN that can't go on there", x -> {
            x.faulty(0, "x y z");
            x.faulty(2, "  x");
            x.faulty(7, "pay 1; x; y");
            x.faulty(12, "pay 1;pay 2 pay;late");
            x.faulty(4, "pay 10001; late");
            // The TOKEN's first byte, not its last, nor the blank ahead of it.
            x.faulty(8, "pay     xyz");
        });
        Line.of("Term V", "(the end's: the TEXT's length)", x -> {
            x.faulty(3, "pay");
            x.faulty(6, "pay   ");
            x.faulty(6, "pay 1;");
            x.faulty(8, "pay 1;  ");
            x.faulty(200, "pay" + " ".repeat(197));
            x.faulty(200, " ".repeat(197) + "pay");
            x.faulty(200, "pay 1" + " ".repeat(194) + ";");
        });
    }

    private static void twentyClauses() {
        String nineteen = "pay 1;".repeat(19);
        Line.of("Term V", "20 CLAUSES at most (the 21st's first TOKEN)", x -> {
            x.fine(20, nineteen + "pay 1");
            x.due(20, "due", 0, 0, 0);
            x.faulty(120, nineteen + "pay 1;pay 1");
            x.faulty(122, nineteen + "pay 1;  most 1");
            x.faulty(120, nineteen + "pay 1;x");
            x.faulty(120, nineteen + "pay 1;");
            x.faulty(120, nineteen + "pay 1 pay 1");
            x.due(20, "count", 3);
            x.due(20, "due", 0, 0, 0);
        });
        Line.of("Term V", "20 CLAUSES at most (the 21st's first TOKEN)", x -> {
            x.fine(19, "pay1;".repeat(18) + "pay1");
            x.faulty(100, "pay1;".repeat(39) + "pay1");
            x.due(19, "due", 0, 0, 0);
            // An earlier FAULT comes first.
            x.faulty(9, "pay 1;pay;" + "pay 1;".repeat(21));
        });
    }

    private static void feed() {
        Line.of("Promise 16", "Twenty bytes come behind the TAPE, four of each number, the highest first: how many it has", x -> {
            x.due(20, "feed", 0x70617931, 0x303b7061, 0x7932303b, 0x70617934, 0x3030303b);
            x.due(40, "feed", 0x70617935, BLANKS, BLANKS, BLANKS, BLANKS);
            x.due(40, "count", 5);
            x.due(4, "contract");
            x.due(10 + 20 + 4000 + 5, "due", 0, 0, 0);
        });
        // Bytes above 127, and numbers at the ends of int: all are single other bytes.
        Line.of("Promise 16", "Twenty bytes come behind the TAPE, four of each number, the highest first: how many it has", x -> {
            x.due(20, "feed", BLANKS, MIN, MAX, -1, 0);
            x.due(-6, "contract");
            x.due(4, "fault");
            x.due(20, "feed", BLANKS, BLANKS, BLANKS, BLANKS, 0x202020ff);
            x.due(-6, "contract");
            x.due(19, "fault");
            x.due(20, "feed", BLANKS, BLANKS, 0x20800020, BLANKS, BLANKS);
            x.due(-6, "contract");
            x.due(9, "fault");
        });
        Line.of("Promise 16", "NONE, if there would be more than 200", x -> {
            x.times(10, i -> x.due(20 * (i + 1), "feed", BLANKS, BLANKS, BLANKS, BLANKS, BLANKS));
            x.due(-1, "feed", 0, 0, 0, 0, 0);
            x.due(200, "count", 5);
            x.due(181, "end", 181);
            x.due(-1, "feed", 0, 0, 0, 0, 0);
            x.due(181, "count", 5);
            x.due(180, "end", 180);
            x.due(200, "feed", 0x70617937, BLANKS, BLANKS, BLANKS, BLANKS);
            x.due(-1, "feed", MIN, MAX, MIN, MAX, 0);
            x.due(1, "contract");
            x.due(7, "due", 0, 0, 0);
            x.due(20, "feed", 0, 0, 0, 0, 0);
        });
    }

    private static void end() {
        Line.of("Promise 17", "The TAPE has its first n bytes alone: n", x -> {
            x.due(0, "end", 0);
            x.type("pay 12345");
            x.due(9, "end", 9);
            x.due(6, "end", 6);
            x.due(6, "count", 5);
            x.due(1, "contract");
            x.due(12, "due", 0, 0, 0);
            // What was cut off is gone: what comes then stands behind the first bytes.
            x.type("pay 1");
            x.due(4, "end", 4);
            x.due(24, "feed", 0x32202020, BLANKS, BLANKS, BLANKS, BLANKS);
            x.due(1, "contract");
            x.due(2, "due", 0, 0, 0);
            x.type("x");
            x.due(0, "end", 0);
            x.due(0, "contract");
        });
        Line.of("Promise 17", "NONE, if it has not so many, or n is below 0", x -> {
            x.due(-1, "end", 1);
            x.due(20, "feed", BLANKS, BLANKS, BLANKS, BLANKS, BLANKS);
            x.outside(0, 20, -1, "end", 0, 0);
            x.due(20, "end", 20);
            x.due(-1, "end", 200);
            x.due(20, "count", 5);
            x.due(0, "end", 0);
            x.due(-1, "end", 1);
        });
        Line.of("Promise 17", "NONE, if it has not so many, or n is below 0", x -> {
            x.times(10, i -> x.due(20 * (i + 1), "feed", 0, 0, 0, 0, 0));
            x.due(200, "end", 200);
            x.due(-1, "end", 201);
            x.due(200, "count", 5);
        });
    }

    private static void contract() {
        Line.of("Promise 18", "The TAPE, which is empty then, becomes the CONTRACT: how many CLAUSES", x -> {
            x.type("pay 1;pay 2;pay 3");
            x.due(3, "contract");
            x.due(0, "count", 5);
            x.due(-1, "end", 1);
            x.due(6, "due", 0, 0, 0);
            // The new one stands alone; nothing of the former one is left.
            x.fine(1, "least 4");
            x.due(4, "due", 0, 0, 0);
        });
        Line.of("Promise 18", "(blanks alone: none)", x -> {
            x.fine(1, "pay 1");
            x.fine(0, " ");
            x.due(0, "due", 9, 9, 9);
            x.fine(1, "pay 1");
            x.fine(0, " ".repeat(200));
            x.due(0, "due", 9, 9, 9);
            x.fine(1, "pay 1");
            x.fine(0, "");
            x.due(0, "due", 9, 9, 9);
        });
        Line.of("Promise 18", "(blanks alone: none)", x -> {
            x.due(0, "contract");
            x.due(-1, "fault");
            x.faulty(2, "  x");
        });
        Line.of("Promise 18", "-6: it stays, FAULT is told", x -> {
            x.fine(2, "pay 5;pay 6");
            x.faulty(19, "pay 100;pay 200;pay");
            x.due(2, "count", 3);
            x.due(11, "due", 0, 0, 0);
            x.faulty(0, "x");
            x.due(2, "count", 3);
            x.due(11, "due", 0, 0, 0);
            x.fine(1, "per ton 3");
            x.due(6, "due", 2, 0, 0);
        });
        Line.of("Promise 18", "-6: it stays, FAULT is told", x -> {
            x.faulty(0, "x");
            x.due(0, "count", 3);
            x.due(0, "due", 1, 1, 1);
        });
    }

    private static void fault() {
        Line.of("Promise 19", "FAULT of the latest contract(): its place", x -> {
            x.faulty(4, "pay x");
            x.faulty(2, "  x");
            x.due(2, "fault");
            x.type("pay 1");
            x.due(2, "fault");
            x.due(0, "load", 1, 1);
            x.due(2, "fault");
        });
        Line.of("Promise 19", "NONE without", x -> {
            x.due(-1, "fault");
            x.type("x");
            x.due(-1, "fault");
            x.due(-6, "contract");
            x.due(0, "fault");
            x.fine(1, "pay 1");
            x.faulty(3, "pay");
            x.fine(0, " ");
            x.due(-1, "fault");
        });
    }
}
