import java.util.Random;

/** Long runs of calls, drawn from fixed seeds, on the program and on the Oracle: each answer must be the same. */
public final class AgainstOracleTest {
    private static final int RUNS = 1500, CALLS = 200;
    private static int wrong = 0;

    private final Random dice;
    private final NobodyBreathes x = new NobodyBreathes();
    private final Oracle o = new Oracle();
    private final StringBuilder log = new StringBuilder();

    private AgainstOracleTest(long seed) {
        dice = new Random(seed);
    }

    public static void main(String[] args) {
        for (int run = 0; run < RUNS && wrong < 3; run++) {
            new AgainstOracleTest(run).go(run);
        }
        System.out.println(wrong == 0 ? "the oracle agrees" : "the oracle does not agree");
        if (wrong != 0) System.exit(1);
    }

    private void go(int run) {
        int kinds = dice.nextInt(3) == 0 ? 1 : 6;
        int start = dice.nextInt(11);
        for (int i = 0; i < start; i++) {
            if (!newSinger(kinds)) return;
        }
        if (dice.nextBoolean()) {
            for (int s = 0; s < 48; s++) {
                if (!same("set(0," + s + ")", x.set(0, s, s % 10), o.set(0, s, s % 10))) return;
            }
        }
        if (dice.nextInt(3) != 0 && !fullPiece()) return;
        for (int c = 0; c < CALLS; c++) {
            if (!call(kinds)) {
                System.out.println("run " + run + ":\n" + log);
                return;
            }
        }
    }

    /** LEAST for the voices and a plan on each sheet, so that few calls are refused. */
    private boolean fullPiece() {
        for (int v = 0; v < 4; v++) {
            int n = dice.nextInt(5);
            if (!same("set(3," + v + "," + n + ")", x.set(3, v, n), o.set(3, v, n))) return false;
        }
        for (int i = 0; i < 4; i++) {
            int sort = dice.nextInt(3);
            int n = 20 + dice.nextInt(21);
            if (!same("sheet(" + i + "," + sort + "," + n + ")", x.sheet(i, sort, n), o.sheet(i, sort, n))) return false;
            if (!aPlan()) return false;
        }
        return true;
    }

    private boolean same(String call, long got, long due) {
        log.append(call).append(" answered ").append(got).append(", due is ").append(due).append('\n');
        if (got != due) wrong++;
        return got == due;
    }

    /** Mostly a number of low .. high, seldom one beside it or far off. */
    private int pick(int low, int high) {
        int chance = dice.nextInt(60);
        if (chance == 0) return low - 1;
        if (chance == 1) return high + 1;
        if (chance == 2) return dice.nextInt();
        if (chance == 3) return dice.nextBoolean() ? Integer.MIN_VALUE : Integer.MAX_VALUE;
        return low + dice.nextInt(high - low + 1);
    }

    private boolean newSinger(int kinds) {
        int kind = pick(0, kinds - 1);
        int hold = dice.nextInt(3) == 0 ? 2 + dice.nextInt(39) : 2 + dice.nextInt(14);
        int takes = dice.nextInt(3) == 0 ? 1 + dice.nextInt(9) : 1 + dice.nextInt(2);
        int rest = dice.nextInt(30) == 0 ? dice.nextInt(5000) - 500 : 1000 * dice.nextInt(dice.nextBoolean() ? 2 : 4) + 100 * takes + hold;
        int number = pick(0, 9);
        return same("singer(" + kind + "," + rest + "," + number + ")", x.singer(kind, rest, number), o.singer(kind, rest, number));
    }

    private boolean call(int kinds) {
        int a;
        int b;
        int c;
        int d;
        int e;
        switch (dice.nextInt(30)) {
            case 0: case 1: case 2:
                a = pick(0, 5);
                b = a == 3 ? pick(0, 3) : pick(0, 47);
                c = a == 0 ? pick(0, 9) : a < 3 ? pick(0, 1) : a == 3 ? pick(0, 5) : a == 4 ? pick(1, 48) : pick(0, 3);
                return same("set(" + a + "," + b + "," + c + ")", x.set(a, b, c), o.set(a, b, c));
            case 3:
                return dice.nextInt(4) != 0 || newSinger(kinds);
            case 4:
                a = pick(0, 9);
                b = pick(0, 3);
                return same("voice(" + a + "," + b + ")", x.voice(a, b), o.voice(a, b));
            case 5: case 6:
                a = pick(0, 9);
                b = pick(0, 48);
                c = pick(0, 47);
                d = pick(0, 5);
                return same("told(" + a + "," + b + "," + c + "," + d + ")", x.told(a, b, c, d), o.told(a, b, c, d));
            case 7:
                return aText();
            case 8:
                a = pick(0, 5);
                return same("force(" + a + ")", x.force(a), o.force(a));
            case 9:
                a = pick(0, 6);
                b = pick(0, 30);
                return same("sing(" + a + "," + b + ")", x.sing(a, b), o.sing(a, b));
            case 10:
                a = pick(0, 6);
                b = pick(0, 30);
                c = pick(0, 3);
                return same("of(" + a + "," + b + "," + c + ")", x.of(a, b, c), o.of(a, b, c));
            case 11:
                a = pick(0, 6);
                return same("wrong(" + a + ")", x.wrong(a), o.wrong(a));
            case 12:
                a = pick(0, 6);
                return same("bad(" + a + ")", x.bad(a), o.bad(a));
            case 13:
                a = pick(0, 6);
                b = pick(-1, 9);
                return same("breaths(" + a + "," + b + ")", x.breaths(a, b), o.breaths(a, b));
            case 14:
                a = pick(1, 40);
                b = pick(1, 18);
                c = pick(0, 99);
                return same("fewest(" + a + "," + b + "," + c + ")", x.fewest(a, b, c), o.fewest(a, b, c));
            case 15:
                if (dice.nextInt(4) != 0) return true;
                a = dice.nextInt(10) == 0 ? pick(0, 6) : 6 * dice.nextInt(2);
                b = pick(0, 9);
                c = pick(0, 1);
                return same("round(" + a + "," + b + "," + c + ")", x.round(a, b, c), o.round(a, b, c));
            case 16:
                a = pick(0, 6);
                b = pick(0, 9);
                c = pick(0, 3);
                return same("lent(" + a + "," + b + "," + c + ")", x.lent(a, b, c), o.lent(a, b, c));
            case 17:
                a = pick(0, 6);
                b = pick(0, 9);
                c = pick(0, 47);
                return same("lost(" + a + "," + b + "," + c + ")", x.lost(a, b, c), o.lost(a, b, c));
            case 18:
                if (dice.nextInt(5) != 0) return true;
                a = pick(0, 3);
                return same("who(" + a + ")", x.who(a), o.who(a));
            case 19:
                return dice.nextInt(3) != 0 || same("image()", x.image(), o.image());
            case 20:
                return dice.nextInt(3) != 0 || same("back()", x.back(), o.back());
            case 21:
                a = pick(0, 7);
                return same("count(" + a + ")", x.count(a), o.count(a));
            case 22:
                a = pick(0, 3);
                b = pick(-1, 2);
                c = pick(0, 40);
                return same("sheet(" + a + "," + b + "," + c + ")", x.sheet(a, b, c), o.sheet(a, b, c));
            case 23: case 24:
                return dice.nextInt(3) == 0 ? oneCell() : aPlan();
            case 25:
                a = pick(0, 3);
                b = pick(0, 40);
                c = pick(0, 3);
                d = pick(0, 40);
                e = pick(0, 20);
                return same("copy(" + a + "," + b + "," + c + "," + d + "," + e + ")", x.copy(a, b, c, d, e), o.copy(a, b, c, d, e));
            case 26:
                return someSingers();
            case 27:
                a = pick(0, 9);
                b = pick(0, 5);
                return same("taken(" + a + "," + b + ")", x.taken(a, b), o.taken(a, b));
            case 28:
                a = pick(1, 8);
                long bytes = dice.nextLong();
                return dice.nextInt(12) != 0 || same("feed(" + a + "," + bytes + ")", x.feed(a, bytes), o.feed(a, bytes));
            default:
                return dice.nextInt(12) != 0 || same("text()", x.text(), o.text());
        }
    }

    private boolean oneCell() {
        int a = pick(0, 3);
        int b = pick(0, 39);
        int c = dice.nextInt(4) == 0 ? dice.nextInt() : pick(0, 300);
        return same("cell(" + a + "," + b + "," + c + ")", x.cell(a, b, c), o.cell(a, b, c));
    }

    private boolean aPlan() {
        int sheet = dice.nextInt(4);
        int sort = dice.nextInt(3);
        int pairs = dice.nextInt(16);
        if (dice.nextInt(3) == 0 && !same("sheet(" + sheet + "," + sort + "," + 2 * pairs + ")",
                x.sheet(sheet, sort, 2 * pairs), o.sheet(sheet, sort, 2 * pairs))) {
            return false;
        }
        for (int p = 0; p < pairs; p++) {
            int singer = pick(0, 9);
            int step = pick(0, 23);
            if (!same("cell(" + sheet + "," + 2 * p + "," + singer + ")", x.cell(sheet, 2 * p, singer), o.cell(sheet, 2 * p, singer))
                    || !same("cell(" + sheet + "," + (2 * p + 1) + "," + step + ")", x.cell(sheet, 2 * p + 1, step), o.cell(sheet, 2 * p + 1, step))) {
                return false;
            }
        }
        return true;
    }

    private boolean someSingers() {
        if (dice.nextInt(4) != 0) return true;
        int a = pick(0, 3);
        int b = pick(0, 2);
        int c = pick(0, 12);
        int d = pick(0, 10);
        if (dice.nextBoolean()) {
            for (int at = 0; at < 6; at++) {
                int v = at % 3 == 0 ? pick(0, 5) : at % 3 == 1 ? 102 + dice.nextInt(38) : pick(0, 9);
                if (!same("cell(" + a + "," + at + "," + v + ")", x.cell(a, at, v), o.cell(a, at, v))) return false;
            }
        }
        return same("singers(" + a + "," + b + "," + c + "," + d + ")", x.singers(a, b, c, d), o.singers(a, b, c, d));
    }

    // ---- texts: right ones, and ones with a sign too many, too few or another

    private boolean aText() {
        if (dice.nextInt(2) != 0) return true;
        int deep = dice.nextInt(4);
        String source = "must " + e(deep) + " ; may " + e(deep) + " ; thin " + e(deep) + " ;";
        if (dice.nextInt(4) == 0) source = spoilt(source);
        if (dice.nextInt(6) == 0) source = source.replace(" ", dice.nextBoolean() ? "\n" : "");
        if (source.length() > 160) source = source.substring(0, 100 + dice.nextInt(61));
        for (int at = 0; at < source.length(); at += 8) {
            int n = Math.min(8, source.length() - at);
            long bytes = 0;
            for (int k = n - 1; k >= 0; k--) {
                bytes = bytes << 8 | source.charAt(at + k);
            }
            if (!same("feed '" + source.substring(at, at + n) + "'", x.feed(n, bytes), o.feed(n, bytes))) return false;
        }
        if (!same("text()", x.text(), o.text())) return false;
        int newest = o.count(4) - 1;
        return same("force(" + newest + ")", x.force(newest), o.force(newest));
    }

    private String spoilt(String s) {
        int at = dice.nextInt(s.length());
        String[] bits = {"x", "(", ")", "not ", "- ", "12345", "?", "<", ";", "or", "", " held", "\t", "\u00ff"};
        int cut = dice.nextInt(3);
        return s.substring(0, at) + bits[dice.nextInt(bits.length)] + s.substring(Math.min(s.length(), at + cut));
    }

    private String e(int depth) {
        String[] names = {"held", "loud", "step", "singing", "beside", "tired"};
        int kind = depth > 4 ? dice.nextInt(2) : dice.nextInt(13);
        switch (kind) {
            case 0: return names[dice.nextInt(6)];
            case 1: return "" + (dice.nextInt(5) == 0 ? dice.nextInt(10000) : dice.nextInt(10));
            case 2: return e(depth + 2) + " or " + e(depth + 2);
            case 3: return e(depth + 2) + " and " + e(depth + 2);
            case 4: return "not " + e(depth + 1);
            case 5: case 6: return e(depth + 2) + " < " + e(depth + 2);
            case 7: return e(depth + 2) + " = " + e(depth + 2);
            case 8: return e(depth + 2) + " + " + e(depth + 2);
            case 9: return e(depth + 2) + " - " + e(depth + 2);
            case 10: return e(depth + 2) + "*" + e(depth + 2);
            case 11: return "-" + e(depth + 1);
            default: return "( " + e(depth + 1) + " )";
        }
    }
}
