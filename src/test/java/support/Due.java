/** Counts answers that are not the ones that are due. */
final class Due {
    private static int wrong = 0;
    private static String name = "";

    private Due() {
    }

    /** What stands ahead of each call that is told from here on. */
    static void named(String newName) {
        name = newName;
    }

    static void is(String call, long got, long want) {
        if (got != want) {
            wrong++;
            System.out.println(name + call + " answered " + got + ", due is " + want);
        }
    }

    static void holds(String what, boolean is) {
        is(what, is ? 1 : 0, 1);
    }

    /** Puts a text behind the tape, eight bytes a call. */
    static void feed(NobodyBreathes x, String source) {
        for (int at = 0; at < source.length(); at += 8) {
            int n = Math.min(8, source.length() - at);
            long bytes = 0;
            for (int k = n - 1; k >= 0; k--) {
                bytes = bytes << 8 | source.charAt(at + k);
            }
            x.feed(n, bytes);
        }
    }

    static int text(NobodyBreathes x, String source) {
        feed(x, source);
        return x.text();
    }

    /** The source becomes a text, and that text the rule. */
    static void rule(NobodyBreathes x, String source) {
        int number = text(x, source);
        holds("'" + source + "' is a text", number > 0);
        x.force(number);
    }

    /** Sheet i becomes a row of ints that holds these. */
    static void plan(NobodyBreathes x, int i, int... items) {
        x.sheet(i, 2, items.length);
        for (int k = 0; k < items.length; k++) {
            x.cell(i, k, items[k]);
        }
    }

    static void end() {
        System.out.println(wrong == 0 ? "all answers are as due" : wrong + " answers are not as due");
        if (wrong != 0) System.exit(1);
    }
}
