import java.math.BigInteger;
import java.util.ArrayList;
import java.util.Arrays;
import java.util.Comparator;
import java.util.HashMap;
import java.util.List;
import java.util.Map;
import java.util.function.Predicate;
import java.util.regex.Matcher;
import java.util.regex.Pattern;

/**
 * The document written a second time, in the order of its promises, as plainly as it can be said and
 * without a thought of speed. RunsTest holds SailCargo against it, call by call.
 */
final class Plain {
    // One made passage outweighs all the COAL there is, so one number holds both aims of Term II.
    private static final BigInteger MADE = BigInteger.TWO.pow(60);
    private static final String[][] FORMS = {{"pay", "#"}, {"per", "ton", "#"}, {"late", "#", "behind", "#"},
        {"early", "#", "ahead", "#"}, {"smoke", "#", "below", "#"}, {"most", "#"}, {"least", "#"}};

    private record Weights(int[] each, int known) {
    }

    private record Load(int tons, int worth) {
    }

    private record Slot(int port, int berth, int first, int last) {
    }

    private record Clause(String word, List<Integer> numbers) {
    }

    private record Token(String text, int place) {
    }

    private final List<Weights> weights = new ArrayList<>();
    private final int[] sails = new int[4];
    private int engine;
    private final Map<List<Integer>, BigInteger> aims = new HashMap<>();
    private final List<Load> loads = new ArrayList<>();
    private final boolean[][] apart = new boolean[12][12];
    private final int[] berths = {1, 1, 1, 1, 1, 1};
    private final List<Slot> slots = new ArrayList<>();
    private String tape = "";
    private List<Clause> contract = List.of();
    private int fault = -1;
    private final List<Integer> legs = new ArrayList<>();
    private final boolean[][] aboard = new boolean[12][10];
    private int status;

    int winds(int a, int b, int c, int d, int known) {
        int[] each = {a, b, c, d};
        boolean can = Arrays.stream(each).allMatch(n -> in(n, 0, 16)) && a + b + c + d == 16 && in(known, 0, 1000);
        int refusal = first(!can, -1, weights.size() == 40, -5);
        if (refusal == 0) {
            weights.add(new Weights(each, known));
        }
        return told(refusal, weights.size());
    }

    int weight(int wind, int known) {
        return in(wind, 0, 3) && in(known, 0, 1000) ? known(known)[wind] : -1;
    }

    private int[] known(int day) {
        int[] each = {4, 4, 4, 4};
        for (Weights one : weights) {
            each = one.known <= day ? one.each : each;
        }
        return each;
    }

    int sails(int wind, int miles) {
        int refusal = first(!in(wind, 0, 3) || !in(miles, 0, 20), -1);
        if (refusal == 0) {
            sails[wind] = miles;
            aims.clear();
        }
        return told(refusal, 0);
    }

    int engine(int miles) {
        int former = engine;
        int refusal = first(!in(miles, 0, 20), -1);
        if (refusal == 0) {
            engine = miles;
            aims.clear();
        }
        return told(refusal, former);
    }

    long luck(int miles, int days, int coal, int known, int what) {
        if (!in(miles, 0, 120) || !in(days, 0, 12) || !in(coal, 0, 12) || !in(known, 0, 1000) || !in(what, 0, 1)) {
            return -1;
        }
        BigInteger aim = aim(miles, days, coal, known(known));
        // The COAL is less than one made passage: what is missing to the next whole one.
        BigInteger chance = aim.add(MADE).subtract(BigInteger.ONE).divide(MADE);
        return (what == 0 ? chance : chance.multiply(MADE).subtract(aim)).longValueExact();
    }

    /** Of all the winds that may come: the made passages' worth less the COAL burnt, the most there can be. */
    private BigInteger aim(int miles, int days, int coal, int[] each) {
        if (miles <= 0) {
            return MADE.shiftLeft(4 * days);
        }
        List<Integer> key = List.of(miles, days, coal, each[0], each[1], each[2], each[3]);
        BigInteger sum = aims.get(key);
        if (sum == null) {
            sum = BigInteger.ZERO;
            for (int wind = 0; wind < 4 && days > 0; wind++) {
                BigInteger best = Arrays.stream(ways(miles, days, coal, wind, each)).max(Comparator.naturalOrder()).get();
                sum = sum.add(best.multiply(BigInteger.valueOf(each[wind])));
            }
            aims.put(key, sum);
        }
        return sum;
    }

    /** SAILS, ENGINE, to wait; without COAL the ENGINE is worse than whatever else. */
    private BigInteger[] ways(int miles, int days, int coal, int wind, int[] each) {
        BigInteger steam = BigInteger.ONE.negate().shiftLeft(100);
        if (coal > 0) {
            steam = aim(miles - engine, days - 1, coal - 1, each).subtract(BigInteger.ONE.shiftLeft(4 * (days - 1)));
        }
        return new BigInteger[] {aim(miles - sails[wind], days - 1, coal, each), steam,
            aim(miles, days - 1, coal, each)};
    }

    int choice(int miles, int days, int coal, int wind, int known) {
        if (!in(miles, 0, 120) || !in(days, 1, 12) || !in(coal, 0, 12) || !in(wind, 0, 3) || !in(known, 0, 1000)) {
            return -1;
        }
        List<BigInteger> ways = List.of(ways(miles, days, coal, wind, known(known)));
        return ways.indexOf(ways.stream().max(Comparator.naturalOrder()).get());
    }

    int promise(int miles, int coal, int known, int n) {
        for (int days = 0; days <= 12 && in(n, 1, 16); days++) {
            long luck = luck(miles, days, coal, known, 0);
            BigInteger asked = BigInteger.valueOf(n).shiftLeft(4 * days);
            if (luck != -1 && BigInteger.valueOf(luck).shiftLeft(4).compareTo(asked) >= 0) {
                return days;
            }
        }
        return -1;
    }

    int load(int tons, int worth) {
        int refusal = first(!in(tons, 1, 200) || !in(worth, 0, 10000), -1, loads.size() == 12, -5);
        if (refusal == 0) {
            loads.add(new Load(tons, worth));
        }
        return told(refusal, loads.size() - 1);
    }

    int apart(int a, int b, boolean is) {
        int refusal = first(!has(loads, a) || !has(loads, b), -2, a == b, -3);
        if (refusal == 0) {
            apart[a][b] = is;
            apart[b][a] = is;
        }
        return told(refusal, 0);
    }

    int stow(int tons, int what) {
        if (!in(tons, 0, 1000) || !in(what, 0, 2)) {
            return -1;
        }
        List<int[]> ships = new ArrayList<>();
        for (int bits = 0; bits < 1 << loads.size(); bits++) {
            int[] ship = {bits, 0, 0};
            boolean can = true;
            for (int i = 0; i < loads.size(); i++) {
                boolean isIn = (bits >> i & 1) == 1;
                ship[1] += isIn ? loads.get(i).tons : 0;
                ship[2] += isIn ? loads.get(i).worth : 0;
                for (int j = 0; j < i; j++) {
                    can &= !isIn || (bits >> j & 1) == 0 || !apart[i][j];
                }
            }
            if (can && ship[1] <= tons) {
                ships.add(ship);
            }
        }
        Comparator<int[]> order = Comparator.comparingInt(ship -> -ship[2]);
        return ships.stream().min(order.thenComparingInt(ship -> ship[1]).thenComparingInt(ship -> ship[0])).get()[what];
    }

    int berths(int port, int many) {
        Predicate<Slot> goes = slot -> slot != null && slot.port == port && slot.berth >= many;
        int refusal = first(!in(many, 1, 3), -1, !in(port, 0, 5), -2, slots.stream().anyMatch(goes), -3);
        int former = in(port, 0, 5) ? berths[port] : 0;
        if (refusal == 0) {
            berths[port] = many;
        }
        return told(refusal, former);
    }

    int slot(int port, int from, int days) {
        int refusal = first(!in(from, 0, 400) || !in(days, 1, 30), -1, !in(port, 0, 5), -2);
        Slot found = refusal == 0 ? find(port, from, days) : null;
        refusal = refusal != 0 ? refusal : first(found == null, -3, slots.size() == 60, -5);
        if (refusal == 0) {
            slots.add(found);
        }
        return told(refusal, slots.size() - 1);
    }

    private Slot find(int port, int from, int days) {
        for (int day = from; day + days - 1 <= 400; day++) {
            for (int berth = 0; berth < berths[port]; berth++) {
                Slot asked = new Slot(port, berth, day, day + days - 1);
                if (slots.stream().noneMatch(other -> other != null && meet(asked, other))) {
                    return asked;
                }
            }
        }
        return null;
    }

    private static boolean meet(Slot a, Slot b) {
        boolean sameBerth = a.port == b.port && a.berth == b.berth;
        return sameBerth && Math.max(a.first, b.first) <= Math.min(a.last, b.last);
    }

    int of(int slot, int what) {
        if (!isHeld(slot) || !in(what, 0, 3)) {
            return -1;
        }
        Slot one = slots.get(slot);
        return new int[] {one.port, one.berth, one.first, one.last}[what];
    }

    int free(int slot) {
        int refusal = first(!isHeld(slot), -2);
        if (refusal == 0) {
            slots.set(slot, null);
        }
        return told(refusal, 0);
    }

    private boolean isHeld(int slot) {
        return has(slots, slot) && slots.get(slot) != null;
    }

    int feed(int a, int b, int c, int d, int e) {
        if (tape.length() > 180) {
            return -1;
        }
        for (int four : new int[] {a, b, c, d, e}) {
            for (int power = 3; power >= 0; power--) {
                tape += (char) Math.floorMod(Math.floorDiv((long) four, 1L << 8 * power), 256L);
            }
        }
        return tape.length();
    }

    int end(int n) {
        if (!in(n, 0, tape.length())) {
            return -1;
        }
        tape = tape.substring(0, n);
        return n;
    }

    int contract() {
        List<Token> tokens = new ArrayList<>();
        Matcher matcher = Pattern.compile("[a-z]+|[0-9]+|[^ ]", Pattern.DOTALL).matcher(tape);
        while (matcher.find()) {
            tokens.add(new Token(matcher.group(), matcher.start()));
        }
        tokens.add(new Token("", tape.length()));
        List<Clause> read = new ArrayList<>();
        fault = tokens.size() == 1 ? -1 : read(tokens, read);
        tape = "";
        contract = fault == -1 ? read : contract;
        return told(first(fault != -1, -6), contract.size());
    }

    /** The place of the first TOKEN that goes on none of the FORMS, or -1. */
    private static int read(List<Token> tokens, List<Clause> read) {
        int next = 0;
        while (read.size() < 20) {
            List<String[]> open = new ArrayList<>(List.of(FORMS));
            String word = tokens.get(next).text;
            List<Integer> numbers = new ArrayList<>();
            for (int i = 0; open.size() != 1 || i < open.get(0).length; i++) {
                Token token = tokens.get(next);
                int place = i;
                open.removeIf(form -> place >= form.length || !fits(token.text, form[place]));
                if (open.isEmpty()) {
                    return token.place;
                }
                if (open.get(0)[i].equals("#")) {
                    numbers.add(Integer.parseInt(token.text));
                }
                next++;
            }
            read.add(new Clause(word, numbers));
            Token behind = tokens.get(next);
            if (behind.text.isEmpty()) {
                return -1;
            }
            if (!behind.text.equals(";")) {
                return behind.place;
            }
            next++;
        }
        return tokens.get(next).place;
    }

    private static boolean fits(String token, String asked) {
        if (!asked.equals("#")) {
            return token.equals(asked);
        }
        return token.matches("[0-9]+") && new BigInteger(token).compareTo(BigInteger.valueOf(10000)) <= 0;
    }

    int fault() {
        return fault;
    }

    long due(int tons, int day, int smoke) {
        if (!in(tons, 0, 10000) || !in(day, 0, 10000) || !in(smoke, 0, 1000000)) {
            return -1;
        }
        long sum = 0;
        for (Clause clause : contract) {
            long n = clause.numbers.get(0);
            long m = clause.numbers.get(clause.numbers.size() - 1);
            sum = switch (clause.word) {
                case "pay" -> sum + n;
                case "per" -> sum + n * tons;
                case "late" -> day > m ? sum - n * (day - m) : sum;
                case "early" -> day < m ? sum + n * (m - day) : sum;
                case "smoke" -> smoke < m * tons ? sum + n : sum;
                case "most" -> sum > n ? n : sum;
                default -> sum < n ? n : sum;
            };
        }
        return sum;
    }

    int leg(int smoke) {
        int refusal = first(!in(smoke, 0, 100000), -1, legs.size() == 10, -5);
        if (refusal == 0) {
            legs.add(smoke);
        }
        return told(refusal, legs.size() - 1);
    }

    int aboard(int load, int from, int to) {
        int refusal = first(to < from, -1, !has(loads, load) || !has(legs, from) || !has(legs, to), -2);
        for (int leg = 0; refusal == 0 && leg < 10; leg++) {
            aboard[load][leg] = in(leg, from, to);
        }
        return told(refusal, 0);
    }

    int part(int load, int leg) {
        if (!has(loads, load) || !has(legs, leg)) {
            return -1;
        }
        List<Integer> there = there(leg);
        if (!there.contains(load)) {
            return 0;
        }
        int all = there.stream().mapToInt(i -> loads.get(i).tons).sum();
        int[] parts = new int[12];
        int[] rests = new int[12];
        int left = legs.get(leg);
        for (int i : there) {
            parts[i] = legs.get(leg) * loads.get(i).tons / all;
            rests[i] = legs.get(leg) * loads.get(i).tons % all;
            left -= parts[i];
        }
        Comparator<Integer> order = Comparator.comparingInt(i -> -rests[i]);
        there.sort(order.thenComparingInt(i -> i));
        there.subList(0, left).forEach(i -> parts[i]++);
        return parts[load];
    }

    private List<Integer> there(int leg) {
        List<Integer> there = new ArrayList<>();
        for (int i = 0; i < loads.size(); i++) {
            if (aboard[i][leg]) {
                there.add(i);
            }
        }
        return there;
    }

    int smoke(int load) {
        if (load != -1 && !has(loads, load)) {
            return -2;
        }
        int sum = 0;
        for (int leg = 0; leg < legs.size(); leg++) {
            int own = there(leg).isEmpty() ? legs.get(leg) : 0;
            sum += load == -1 ? own : part(load, leg);
        }
        return sum;
    }

    int count(int what) {
        int held = (int) slots.stream().filter(slot -> slot != null).count();
        int[] all = {weights.size(), loads.size(), slots.size(), contract.size(), legs.size(), tape.length(), held};
        return in(what, 0, 6) ? all[what] : -1;
    }

    int status() {
        return status;
    }

    private static boolean in(int n, int low, int high) {
        return n >= low && n <= high;
    }

    private static boolean has(List<?> list, int n) {
        return in(n, 0, list.size() - 1);
    }

    /** Of what a call may be REFUSED by, in the document's order: the first that is so, or 0. */
    private static int first(Object... reasons) {
        for (int i = 0; i < reasons.length; i += 2) {
            if ((Boolean) reasons[i]) {
                return (Integer) reasons[i + 1];
            }
        }
        return 0;
    }

    private int told(int refusal, int answer) {
        status = refusal;
        return refusal == 0 ? answer : refusal;
    }
}
