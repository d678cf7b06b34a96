import java.util.ArrayList;
import java.util.List;
import java.util.Random;
import java.util.regex.Matcher;
import java.util.regex.Pattern;

/** Promises 16 to 20: feed, end, contract, fault, due. */
public final class ContractTest {
    private static final String[] WORDS = {"pay", "per", "ton", "late", "behind", "early", "ahead", "smoke", "below",
        "most", "least", ";"};
    // One letter a TOKEN, in the order of WORDS; n is a NUMBER, x whatever else.
    private static final String CLAUSE = "(an|bcn|dnen|fngn|hnin|jn|kn)";
    private static final Pattern CONTRACT = Pattern.compile("(" + CLAUSE + "(l" + CLAUSE + "){0,19})?");
    // The ";" behind the 20th CLAUSE can go on: the FAULT is the 21st's first TOKEN.
    private static final Pattern BEGINNING = Pattern.compile("(" + CLAUSE + "(l" + CLAUSE + "){0,19}l?)?");

    public static void main(String[] args) {
        tape();
        texts();
        itStays();
        endOfTape();
        clausesAtMost();
        dues();
        dueBounds();
        againstPattern();
        Check.finish();
    }

    private static void tape() {
        SailCargo x = new SailCargo();
        for (int i = 1; i <= 10; i++) {
            Check.same("feed " + i, x.feed(0x20202020, 0x20202020, 0x20202020, 0x20202020, 0x20202020), 20 * i);
        }
        Check.same("feed 11", x.feed(0, 0, 0, 0, 0), -1);
        Check.same("bytes", x.count(5), 200);
        Check.same("end -1", x.end(-1), -1);
        Check.same("end 201", x.end(201), -1);
        Check.same("end 200", x.end(200), 200);
        Check.same("end 181", x.end(181), 181);
        Check.same("feed to 201", x.feed(0, 0, 0, 0, 0), -1);
        Check.same("bytes", x.count(5), 181);
        Check.same("end 180", x.end(180), 180);
        Check.same("feed to 200", x.feed(0x70617920, 0x37202020, 0x20202020, 0x20202020, 0x20202020), 200);
        Check.same("status is not of these", x.status(), 0);
        Check.same("contract", x.contract(), 1);
        Check.same("empty then", x.count(5), 0);
        Check.same("due", x.due(0, 0, 0), 7);
        Check.same("end 1", x.end(1), -1);
        Check.same("end 0", x.end(0), 0);
        // Four bytes of each number, the highest first, in the order of the numbers.
        x.feed(0x70617931, 0x303b7061, 0x7932303b, 0x70617934, 0x30302020);
        Check.same("contract", x.contract(), 3);
        Check.same("due", x.due(0, 0, 0), 430);
        // Bytes above 127 are bytes as others are.
        x.feed(0x70617920, 0x310000ff, -1, -1, -1);
        Check.same("end", x.end(9), 9);
        Check.same("contract", x.contract(), -6);
        Check.same("fault", x.fault(), 5);
        Check.type(x, "pay ");
        Check.type(x, "12");
        Check.same("contract", x.contract(), 1);
        Check.same("due", x.due(0, 0, 0), 12);
    }

    private static void texts() {
        fine("", 0);
        fine(" ", 0);
        fine("          ", 0);
        fine("pay 0", 1);
        fine("pay10000", 1);
        fine("  pay   10000  ", 1);
        fine("pay 00000000000000000000010000", 1);
        fine("per ton 3", 1);
        fine("late 1 behind 2", 1);
        fine("late1behind2", 1);
        fine("early 1 ahead 0", 1);
        fine("smoke 1 below 10000", 1);
        fine("most 5;least 5", 2);
        fine("most 5 ; least 5 ;pay 1;pay 1", 4);
        faulty("pay", 3);
        faulty("pay   ", 6);
        faulty("pay 10001", 4);
        faulty("pay 99999999999999999999", 4);
        faulty("pay 4294967296", 4);
        faulty("pay x", 4);
        faulty("pay -1", 4);
        faulty("pay 1 2", 6);
        faulty("pay 1pay 2", 5);
        faulty("pay 1;", 6);
        faulty("pay 1; ", 7);
        faulty("pay 1;;", 6);
        faulty(";", 0);
        faulty("  ;", 2);
        faulty("7", 0);
        faulty("ton 3", 0);
        faulty("pays 3", 0);
        faulty("pa y 3", 0);
        faulty("Pay 3", 0);
        faulty("perton 3", 0);
        faulty("per 3", 4);
        faulty("per tons 3", 4);
        faulty("per ton", 7);
        faulty("per ton ton", 8);
        faulty("late 3", 6);
        faulty("late 3;pay 1", 6);
        faulty("late 3 ahead 4", 7);
        faulty("late 3 behind", 13);
        faulty("late 3 behind 10001", 14);
        faulty("late behind 3", 5);
        faulty("early 3 behind 4", 8);
        faulty("early 3 ahead x", 14);
        faulty("smoke 3 ahead 4", 8);
        faulty("smoke 3 below", 13);
        faulty("most", 4);
        faulty("least least", 6);
        faulty("\tpay 3", 0);
        faulty("pay\n3", 3);
        faulty("pay 3\0", 5);
    }

    private static void fine(String text, int clauses) {
        SailCargo x = new SailCargo();
        Check.type(x, "late");
        x.contract();
        Check.type(x, text);
        Check.same("contract \"" + text + "\"", x.contract(), clauses);
        Check.same("fault", x.fault(), -1);
        Check.same("status", x.status(), 0);
        Check.same("clauses", x.count(3), clauses);
        Check.same("bytes", x.count(5), 0);
    }

    private static void faulty(String text, int place) {
        SailCargo x = new SailCargo();
        Check.type(x, text);
        Check.same("contract \"" + text + "\"", x.contract(), -6);
        Check.same("fault of \"" + text + "\"", x.fault(), place);
        Check.same("status", x.status(), -6);
        Check.same("clauses", x.count(3), 0);
        Check.same("bytes", x.count(5), 0);
    }

    private static void itStays() {
        SailCargo x = new SailCargo();
        Check.type(x, "pay 5;pay 6");
        x.contract();
        Check.type(x, "pay 100;pay 200;pay");
        Check.same("contract", x.contract(), -6);
        Check.same("due", x.due(1, 1, 1), 11);
        Check.same("clauses", x.count(3), 2);
        Check.type(x, "per ton 3");
        Check.same("contract", x.contract(), 1);
        Check.same("due", x.due(2, 1, 1), 6);
        Check.type(x, "  ");
        Check.same("contract", x.contract(), 0);
        Check.same("due", x.due(2, 1, 1), 0);
    }

    /** What was cut off does not count, nor what stood there in an earlier text. */
    private static void endOfTape() {
        SailCargo x = new SailCargo();
        Check.type(x, "pay 12345");
        Check.same("end", x.end(6), 6);
        Check.same("contract", x.contract(), 1);
        Check.same("due", x.due(0, 0, 0), 12);
        Check.type(x, "pays");
        Check.same("end", x.end(3), 3);
        Check.same("contract", x.contract(), -6);
        Check.same("fault", x.fault(), 3);
        fine(" ".repeat(195) + "pay 7", 1);
        fine("pay " + "0".repeat(195) + "7", 1);
        faulty(" ".repeat(197) + "pay", 200);
        faulty("a".repeat(200), 0);
        faulty("pay 7" + " ".repeat(194) + ";", 200);
    }

    private static void clausesAtMost() {
        fine("pay 1;".repeat(19) + "pay 1", 20);
        faulty("pay 1;".repeat(20) + "pay 1", 120);
        faulty("pay 1;".repeat(20) + "  pay", 122);
        faulty("pay 1;".repeat(20), 120);
        faulty("pay 1;".repeat(19) + "pay 1 x", 120);
        faulty("pay 1;".repeat(5) + "pay x;" + "pay 1;".repeat(20), 34);
    }

    private static void dues() {
        due("pay 3;pay 4", 9, 9, 9, 7);
        due("per ton 10000", 10000, 0, 0, 100000000);
        due("per ton 10000;".repeat(13) + "per ton 10000", 10000, 0, 0, 1400000000L);
        due("late 7 behind 5", 1, 5, 0, 0);
        due("late 7 behind 5", 1, 6, 0, -7);
        due("late 10000 behind 0", 1, 10000, 0, -100000000);
        due("early 7 ahead 5", 1, 5, 0, 0);
        due("early 7 ahead 5", 1, 3, 0, 14);
        due("early 7 ahead 5", 1, 6, 0, 0);
        due("late 7 behind 5", 1, 4, 0, 0);
        due("smoke 9 below 4", 10, 0, 39, 9);
        due("smoke 9 below 4", 10, 0, 40, 0);
        due("smoke 9 below 4", 0, 0, 0, 0);
        due("smoke 9 below 0", 10, 0, 0, 0);
        due("smoke 9 below 10000", 10000, 0, 1000000, 9);
        due("pay 10;most 5;pay 1", 0, 0, 0, 6);
        due("most 5;pay 10", 0, 0, 0, 10);
        due("least 5;pay 10", 0, 0, 0, 15);
        due("late 7 behind 0;least 5;most 3", 0, 1, 0, 3);
        due("late 7 behind 0;most 3", 0, 1, 0, -7);
        due("late 1 behind 0", 0, 1, 0, -1);
    }

    private static void due(String text, int tons, int day, int smoke, long want) {
        SailCargo x = new SailCargo();
        Check.type(x, text);
        x.contract();
        Check.same("due by \"" + text + "\"", x.due(tons, day, smoke), want);
    }

    private static void dueBounds() {
        SailCargo x = new SailCargo();
        Check.type(x, "pay 5");
        x.contract();
        int[][] wrong = {{-1, 0, 0}, {10001, 0, 0}, {0, -1, 0}, {0, 10001, 0}, {0, 0, -1}, {0, 0, 1000001}};
        for (int[] w : wrong) {
            Check.same("due wrong", x.due(w[0], w[1], w[2]), -1);
        }
        Check.same("status is not of due", x.status(), 0);
        Check.same("due edge", x.due(0, 0, 0), 5);
        Check.same("due edge", x.due(10000, 10000, 1000000), 5);
    }

    /** Made-up texts, mostly near to what can be, against a regular expression over TOKENS. */
    private static void againstPattern() {
        Random random = new Random(17);
        for (int round = 0; round < 3000; round++) {
            String text = text(random);
            List<Integer> places = new ArrayList<>();
            String tokens = tokens(text, places);
            int fault = fault(tokens, places, text.length());
            SailCargo x = new SailCargo();
            Check.type(x, text);
            int clauses = tokens.isEmpty() ? 0 : tokens.replaceAll("[^l]", "").length() + 1;
            Check.same("contract \"" + text + "\"", x.contract(), fault == -1 ? clauses : -6);
            Check.same("fault \"" + text + "\"", x.fault(), fault);
        }
    }

    private static String text(Random random) {
        String[] clauses = {"pay 5", "per ton 17", "late 10000 behind 0", "early 3ahead 9", "smoke 2 below 8", "most 1",
            "least 10"};
        StringBuilder all = new StringBuilder();
        int many = random.nextInt(6) == 0 ? 18 + random.nextInt(6) : random.nextInt(5);
        for (int i = 0; i < many; i++) {
            all.append(i == 0 ? "" : ";").append(clauses[many > 5 ? 5 * random.nextInt(2) : random.nextInt(7)]);
        }
        String bits = " ;0xpay1A\0\u00ff";
        for (int i = random.nextInt(4); i > 0; i--) {
            int at = random.nextInt(all.length() + 1);
            if (random.nextBoolean()) {
                all.insert(at, bits.charAt(random.nextInt(bits.length())));
            } else if (at < all.length()) {
                all.deleteCharAt(at);
            }
        }
        return all.length() > 200 ? all.substring(0, 200) : all.toString();
    }

    private static String tokens(String text, List<Integer> places) {
        StringBuilder all = new StringBuilder();
        Matcher matcher = Pattern.compile("[a-z]+|[0-9]+|[^ ]", Pattern.DOTALL).matcher(text);
        while (matcher.find()) {
            places.add(matcher.start());
            all.append(letter(matcher.group()));
        }
        return all.toString();
    }

    private static char letter(String token) {
        for (int i = 0; i < WORDS.length; i++) {
            if (WORDS[i].equals(token)) {
                return (char) ('a' + i);
            }
        }
        boolean number = token.matches("[0-9]+") && new java.math.BigInteger(token).bitLength() < 31
                && Integer.parseInt(token) <= 10000;
        return number ? 'n' : 'x';
    }

    private static int fault(String tokens, List<Integer> places, int length) {
        for (int i = 1; i <= tokens.length(); i++) {
            Matcher matcher = BEGINNING.matcher(tokens.substring(0, i));
            // hitEnd also tells of a match that would go on with more TOKENS.
            if (!matcher.matches() && !matcher.hitEnd()) {
                return places.get(i - 1);
            }
        }
        return CONTRACT.matcher(tokens).matches() ? -1 : length;
    }
}
