/** Counts and prints the answers that are not the ones due; each test ends with finish(). */
final class Check {
    private static int looked = 0;
    private static int wrong = 0;

    private Check() {
    }

    static void same(String call, long got, long want) {
        looked++;
        if (got != want) {
            wrong++;
            System.out.println(call + " answered " + got + ", due is " + want);
        }
    }

    static void holds(String what, boolean is) {
        same(what, is ? 1 : 0, 1);
    }

    /** Feeds a text of bytes and cuts the TAPE to its length. */
    static void type(SailCargo x, String text) {
        int before = x.count(5);
        for (int i = 0; i < text.length(); i += 20) {
            x.feed(four(text, i), four(text, i + 4), four(text, i + 8), four(text, i + 12), four(text, i + 16));
        }
        same("end behind \"" + text + "\"", x.end(before + text.length()), before + text.length());
    }

    private static int four(String text, int from) {
        int all = 0;
        for (int i = from; i < from + 4; i++) {
            all = all << 8 | (i < text.length() ? text.charAt(i) : ' ');
        }
        return all;
    }

    static void finish() {
        System.out.println(looked + " answers looked at, " + wrong + " not as due");
        if (wrong != 0) {
            System.exit(1);
        }
    }
}
