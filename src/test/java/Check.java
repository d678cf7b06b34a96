/** Counts and prints the answers that are not the ones due; each test ends with finish(). */
final class Check {
    private static int looked = 0;
    private static int wrong = 0;

    private Check() {
    }

    static void same(String call, long got, long want) {
        looked++;
        if (got != want) {
            wrong++;
            System.out.println(call + " answered " + got + ", due is " + want);
        }
    }

    static void holds(String what, boolean is) {
        same(what, is ? 1 : 0, 1);
    }

    /** Feeds a text of bytes and cuts the TAPE to its length. */
    static void type(SailCargo x, String text) {
        int before = x.count(5);
        for (int i = 0; i < text.length(); i += 20) {
            int[] n = twenty(text, i, ' ');
            x.feed(n[0], n[1], n[2], n[3], n[4]);
        }
        same("end behind \"" + text + "\"", x.end(before + text.length()), before + text.length());
    }

    /** What feed takes for the twenty bytes from here on; behind the text's end stands the padding. */
    static int[] twenty(String text, int from, char padding) {
        int[] numbers = new int[5];
        for (int i = 0; i < 20; i++) {
            int at = from + i;
            numbers[i / 4] = numbers[i / 4] << 8 | (at < text.length() ? text.charAt(at) : padding);
        }
        return numbers;
    }

    static void finish() {
        System.out.println(looked + " answers looked at, " + wrong + " not as due");
        if (wrong != 0) {
            System.exit(1);
        }
    }
}
