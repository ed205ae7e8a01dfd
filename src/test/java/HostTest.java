/** Promises 22 to 26: sheet, cell, copy, singers, taken. What a sheet holds is seen by the singers it makes. */
public final class HostTest {
    private static final int BAD = NobodyBreathes.BAD, OUTSIDE = -12, OTHER = -13, NOTHING = -11;

    public static void main(String[] args) {
        sheet();
        cell();
        cellBits();
        copy();
        copyOverItself();
        copyRefuses();
        singers();
        singersRefuses();
        singersOutside();
        taken();
        Due.end();
    }

    private static void sheet() {
        NobodyBreathes x = new NobodyBreathes();
        Due.is("40 bytes", x.sheet(0, 0, 40), 1);
        Due.is("0 shorts", x.sheet(3, 1, 0), 1);
        Due.is("the last one", x.cell(0, 39, 1), 1);
        Due.is("none", x.cell(3, 0, 1), OUTSIDE);
        int[][] calls = {{-1, 0, 1}, {4, 0, 1}, {0, -2, 1}, {0, 3, 1}, {0, 0, 41}, {0, 2, Integer.MAX_VALUE}, {4, 0, -1}, {0, 3, -1}};
        for (int[] c : calls) {
            Due.is("sheet(" + c[0] + "," + c[1] + "," + c[2] + ")", x.sheet(c[0], c[1], c[2]), BAD);
        }
        Due.is("a size below 0", x.sheet(0, 0, -1), -14);
        Due.is("a size far below 0", x.sheet(0, 2, Integer.MIN_VALUE), -14);
        Due.is("refused: it stays", x.cell(0, 39, 1), 1);
        Due.is("missing, whatever n", x.sheet(0, -1, -5), 1);
        Due.is("missing", x.cell(0, 0, 1), NOTHING);
        Due.is("missing again", x.sheet(0, -1, 99), 1);
        NobodyBreathes y = new NobodyBreathes();
        y.singer(0, 140, 0);
        Due.plan(y, 0, 0, 5);
        Due.is("a plan", y.sing(2, 5), 0);
        y.sheet(0, 2, 2);
        Due.is("all 0 again", y.sing(2, 5), 1);
        Due.is("all 0 again", y.sing(2, 0), 0);
    }

    private static void cell() {
        NobodyBreathes x = new NobodyBreathes();
        x.sheet(1, 2, 3);
        Due.is("cell", x.cell(1, 2, Integer.MIN_VALUE), 1);
        Due.is("no such sheet", x.cell(-1, 0, 0), BAD);
        Due.is("no such sheet", x.cell(4, 0, 0), BAD);
        Due.is("missing", x.cell(0, -1, 0), NOTHING);
        Due.is("outside", x.cell(1, 3, 0), OUTSIDE);
        Due.is("outside", x.cell(1, -1, 0), OUTSIDE);
        Due.is("outside", x.cell(1, 39, 0), OUTSIDE);
    }

    private static void cellBits() {
        NobodyBreathes x = new NobodyBreathes();
        x.sheet(0, 0, 3);
        x.cell(0, 0, 0x7f00);
        x.cell(0, 1, 102 - 256);
        x.cell(0, 2, 259);
        Due.is("bytes", x.singers(0, 0, 0, 1), 1);
        Due.is("bytes", x.taken(0, 0), 3);
        x.cell(0, 1, 202);
        Due.is("202 is -54", x.singers(0, 0, 0, 1), 0);
        x.sheet(0, 1, 3);
        x.cell(0, 0, 0x50000 + 5);
        x.cell(0, 1, 3940 - 0x10000);
        x.cell(0, 2, 0x7fff0009);
        Due.is("shorts", x.singers(0, 1, 0, 1), 1);
        Due.is("shorts", x.taken(1, 5), 9);
        Due.is("shorts", x.told(1, 0, 0, 1), 3);
        x.sheet(0, 2, 3);
        x.cell(0, 1, 3940 - 0x10000);
        Due.is("ints", x.singers(0, 2, 0, 1), 0);
    }

    private static void copy() {
        NobodyBreathes x = new NobodyBreathes();
        Due.plan(x, 0, 9, 9, 5, 1140, 7, 9);
        x.sheet(1, 2, 4);
        Due.is("copy 3", x.copy(0, 2, 1, 1, 3), 3);
        Due.is("they came", x.singers(1, 2, 1, 1), 1);
        Due.is("they came", x.taken(0, 5), 7);
        Due.is("they stay", x.singers(0, 2, 2, 1), 1);
        Due.is("copy all", x.copy(1, 0, 0, 0, 4), 4);
        Due.is("nothing at the end", x.copy(0, 6, 1, 4, 0), 0);
        Due.is("nothing", x.copy(0, 0, 0, 0, 0), 0);
    }

    private static void copyOverItself() {
        NobodyBreathes x = new NobodyBreathes();
        Due.plan(x, 0, 1, 102, 2, 4, 105, 6, 0, 0, 0);
        Due.is("up by 1", x.copy(0, 0, 0, 1, 6), 6);
        Due.is("as they were", x.singers(0, 2, 1, 2), 2);
        Due.is("as they were", x.taken(0, 1), 2);
        Due.is("as they were", x.taken(1, 4), 6);
        Due.is("down by 1", x.copy(0, 1, 0, 0, 6), 6);
        Due.is("as they were", x.singers(0, 2, 0, 2), 2);
        Due.is("as they were", x.taken(3, 4), 6);
    }

    private static void copyRefuses() {
        NobodyBreathes x = new NobodyBreathes();
        x.sheet(0, 2, 6);
        x.sheet(1, 1, 6);
        x.sheet(2, 2, 3);
        int[][] bad = {{-1, 0, 0, 0, 0}, {4, 0, 0, 0, 0}, {0, 0, -1, 0, 0}, {0, 0, 4, 0, 0}, {3, 0, 4, 0, 0}};
        for (int[] c : bad) {
            Due.is("copy between none such", x.copy(c[0], c[1], c[2], c[3], c[4]), BAD);
        }
        Due.is("from a missing one", x.copy(3, 0, 0, 0, 0), NOTHING);
        Due.is("to a missing one", x.copy(0, 9, 3, 0, 0), NOTHING);
        Due.is("of unlike sorts", x.copy(0, 0, 1, 0, 1), OTHER);
        Due.is("of unlike sorts, outside", x.copy(0, -1, 1, 0, 99), OTHER);
        int[][] outside = {{0, 0, 2, 0, 4}, {0, 4, 2, 0, 3}, {0, -1, 2, 0, 1}, {0, 0, 2, -1, 1}, {0, 0, 2, 0, -1},
            {0, 7, 2, 0, 0}, {0, 0, 2, 4, 0}, {0, 1, 0, 0, Integer.MAX_VALUE}, {0, Integer.MAX_VALUE, 0, 0, 1},
            {0, 0, 0, Integer.MAX_VALUE, 6}, {0, 0, 0, 0, Integer.MIN_VALUE}};
        for (int[] c : outside) {
            Due.is("copy(" + c[0] + "," + c[1] + "," + c[2] + "," + c[3] + "," + c[4] + ")",
                x.copy(c[0], c[1], c[2], c[3], c[4]), OUTSIDE);
        }
    }

    private static void singers() {
        NobodyBreathes x = new NobodyBreathes();
        Due.plan(x, 2, 7, 0, 102, 0, 1, 101, 0, 5, 3940, 9);
        Due.is("two of three", x.singers(2, 2, 1, 3), 2);
        Due.is("kind", x.told(1, 0, 0, 0), 5);
        Due.is("voice", x.told(1, 0, 0, 1), 3);
        Due.is("hold", x.told(1, 0, 0, 5), 40);
        Due.is("none asked", x.singers(2, 2, 0, 0), 0);
        Due.is("none asked, from anywhere", x.singers(2, 2, -7, 0), 0);
        Due.plan(x, 0, 0, 102, 0, 0, 102, 0, 0, 102, 0, 0, 102, 0, 0, 102, 0, 0, 102, 0, 0, 102, 0, 0, 102, 0, 0, 102, 0, 0, 102, 0);
        Due.is("as many as have room", x.singers(0, 2, 0, 10), 8);
        Due.is("ten", x.count(0), 10);
        Due.is("none has room", x.singers(0, 2, 0, 10), 0);
    }

    private static void singersRefuses() {
        NobodyBreathes x = new NobodyBreathes();
        x.sheet(0, 1, 6);
        int[][] bad = {{-1, 0, 0, 1}, {4, 0, 0, 1}, {0, -1, 0, 1}, {0, 3, 0, 1}, {0, 1, 0, -1}, {0, 1, 0, 11}, {0, 0, 0, 11}, {1, 0, 0, 11}};
        for (int[] c : bad) {
            Due.is("singers(" + c[0] + "," + c[1] + "," + c[2] + "," + c[3] + ")", x.singers(c[0], c[1], c[2], c[3]), BAD);
        }
        Due.is("shorts are no bytes", x.singers(0, 0, 0, 1), OTHER);
        Due.is("shorts are no ints", x.singers(0, 2, 99, 0), OTHER);
        for (int sort = 0; sort < 3; sort++) {
            Due.is("missing", x.singers(1, sort, -1, 0), NOTHING);
        }
    }

    private static void singersOutside() {
        NobodyBreathes x = new NobodyBreathes();
        Due.plan(x, 0, 0, 102, 0, 1, 103, 1, 2, 104);
        Due.is("what stood ahead came", x.singers(0, 2, 0, 3), OUTSIDE);
        Due.is("two", x.count(0), 2);
        Due.is("the second", x.taken(1, 1), 1);
        Due.is("from below", x.singers(0, 2, -1, 1), OUTSIDE);
        Due.is("from far below", x.singers(0, 2, -3, 2), OUTSIDE);
        Due.is("from behind", x.singers(0, 2, 8, 1), OUTSIDE);
        Due.is("from far behind", x.singers(0, 2, Integer.MAX_VALUE, 2), OUTSIDE);
        Due.is("from far below", x.singers(0, 2, Integer.MIN_VALUE, 10), OUTSIDE);
        Due.is("still two", x.count(0), 2);
        for (int i = 0; i < 8; i++) {
            x.singer(0, 102, 0);
        }
        Due.is("outside, though none has room", x.singers(0, 2, 0, 3), OUTSIDE);
    }

    private static void taken() {
        NobodyBreathes x = new NobodyBreathes();
        for (int kind = 0; kind < 6; kind++) {
            x.singer(kind, 102, kind + 3);
        }
        String[] under = {"0", "01", "02", "023", "014", "05"};
        for (int i = 0; i < 6; i++) {
            for (int k = 0; k < 6; k++) {
                Due.is("taken(" + i + "," + k + ")", x.taken(i, k), under[i].indexOf('0' + k) >= 0 ? i + 3 : OTHER);
            }
        }
        Due.is("k -1", x.taken(0, -1), BAD);
        Due.is("k 6", x.taken(9, 6), BAD);
        Due.is("nobody", x.taken(6, 0), NOTHING);
        Due.is("nobody", x.taken(-1, 5), NOTHING);
        Due.is("nobody", x.taken(10, 5), NOTHING);
    }
}
