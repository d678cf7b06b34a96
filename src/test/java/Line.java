import java.lang.reflect.Method;
import java.util.ArrayList;
import java.util.Arrays;
import java.util.HashMap;
import java.util.List;
import java.util.Map;
import java.util.Set;
import java.util.function.Consumer;

/**
 * A SailCargo for the test of one sentence. Behind every call status() is looked at, and in the end
 * the object is held against a twin that got only the calls that were taken: so no refused call, and
 * none that only asks, may have changed anything.
 */
final class Line {
    private static final int MOST_CALLS = 512;
    private static final int[] ENDS = {Integer.MIN_VALUE, Integer.MAX_VALUE};
    private static final Set<String> TOLD_BY_STATUS = Set.of("winds", "sails", "engine", "load", "apart", "berths",
            "slot", "free", "contract", "leg", "aboard");
    private static final Map<String, Method> METHODS = new HashMap<>();

    static {
        for (Method method : SailCargo.class.getDeclaredMethods()) {
            METHODS.put(method.getName(), method);
        }
    }

    private record Call(String name, Object[] args) {
        @Override
        public String toString() {
            String list = Arrays.toString(args);
            return name + "(" + list.substring(1, list.length() - 1) + ")";
        }
    }

    private final String sentence;
    private final SailCargo cargo = new SailCargo();
    private final List<Call> taken = new ArrayList<>();
    private int calls;
    private long status;

    private Line(String sentence) {
        this.sentence = sentence;
    }

    /** Names the sentence, and runs its test on a new object. */
    static void of(String section, String sentence, Consumer<Line> test) {
        Document.name(section, sentence);
        Line line = new Line(section + " \"" + sentence + "\"");
        test.accept(line);
        line.compareWithTwin();
    }

    void due(long want, String name, Object... args) {
        Call call = new Call(name, args);
        Check.same(sentence + ": " + call, answer(call), want);
        if (TOLD_BY_STATUS.contains(name)) {
            status = Math.min(want, 0);
        }
        if (name.equals("contract") || want >= 0 && (TOLD_BY_STATUS.contains(name) || isOfTape(name))) {
            taken.add(call);
        }
        Check.same(sentence + ": status() behind " + call, answer(new Call("status", new Object[0])), status);
    }

    /** What a call that changes nothing answers, for a test that reckons with it. */
    long ask(String name, Object... args) {
        return answer(new Call(name, args));
    }

    private static boolean isOfTape(String name) {
        return name.equals("feed") || name.equals("end");
    }

    /** The first numbers that are not taken any more, at both ends, and the ends of int. */
    void outside(int low, int high, long want, String name, int place, Object... args) {
        Object[] changed = args.clone();
        for (int n : new int[] {low - 1, high + 1, ENDS[0], ENDS[1]}) {
            changed[place] = n;
            due(want, name, changed.clone());
        }
    }

    /** The TAPE becomes this text, whatever was on it. */
    void type(String text) {
        due(0, "end", 0);
        for (int i = 0; i < text.length(); i += 20) {
            int[] n = Check.twenty(text, i, '.');
            due(i + 20, "feed", n[0], n[1], n[2], n[3], n[4]);
        }
        due(text.length(), "end", text.length());
    }

    void fine(int clauses, String text) {
        type(text);
        due(clauses, "contract");
        due(-1, "fault");
        due(clauses, "count", 3);
        due(0, "count", 5);
    }

    void faulty(int place, String text) {
        type(text);
        due(-6, "contract");
        due(place, "fault");
        due(0, "count", 5);
    }

    void place(int slot, int port, int berth, int first, int last) {
        due(port, "of", slot, 0);
        due(berth, "of", slot, 1);
        due(first, "of", slot, 2);
        due(last, "of", slot, 3);
    }

    void times(int many, Consumer<Integer> what) {
        for (int i = 0; i < many; i++) {
            what.accept(i);
        }
    }

    private long answer(Call call) {
        calls++;
        return answerOf(cargo, call);
    }

    private static long answerOf(SailCargo cargo, Call call) {
        try {
            return ((Number) METHODS.get(call.name).invoke(cargo, call.args)).longValue();
        } catch (ReflectiveOperationException wrong) {
            throw new IllegalStateException(call + " on a SailCargo", wrong);
        }
    }

    private void compareWithTwin() {
        SailCargo twin = new SailCargo();
        for (Call call : taken) {
            answerOf(twin, call);
        }
        for (Call call : everythingOf(twin)) {
            Check.same(sentence + ": in the end " + call, answer(call), answerOf(twin, call));
        }
        Check.holds(sentence + ": 512 calls at most, not " + calls, calls <= MOST_CALLS);
    }

    private static List<Call> everythingOf(SailCargo x) {
        List<Call> all = new ArrayList<>();
        int loads = x.count(1);
        int slots = x.count(2);
        int legs = x.count(4);
        for (int what = 0; what <= 6; what++) {
            ask(all, "count", what);
        }
        for (int i = 0; i < 12; i++) {
            ask(all, "weight", i % 4, i / 4 * 500);
        }
        for (int miles = 1; miles <= 21; miles += 4) {
            ask(all, "luck", miles, 1, 0, 0, 0);
            ask(all, "luck", 2 * miles, 3, 2, 1000, 1);
        }
        for (int tons = 1; tons <= 1000; tons *= 10) {
            ask(all, "stow", tons, 0);
        }
        for (int i = 0; i < 4 * slots; i++) {
            ask(all, "of", i / 4, i % 4);
        }
        ask(all, "fault");
        ask(all, "due", 10, 12, 40);
        ask(all, "due", 10000, 10000, 1000000);
        for (int load = -1; load < loads; load++) {
            ask(all, "smoke", load);
            for (int leg = 0; leg < legs; leg++) {
                ask(all, "part", load, leg);
            }
        }
        // These change something, so they come last: each tells what was there.
        ask(all, "engine", 0);
        for (int port = 0; port < 6; port++) {
            ask(all, "berths", port, 3);
        }
        ask(all, "contract");
        ask(all, "fault");
        return all;
    }

    private static void ask(List<Call> all, String name, Object... args) {
        all.add(new Call(name, args));
    }
}
