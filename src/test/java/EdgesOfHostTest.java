import java.util.Arrays;

/** Boundary cases of promises 22 to 26 and of SHEETS in the terms: each block names its sentence first. */
public final class EdgesOfHostTest {
    private static final int BAD = Edge.BAD, NOTHING = Edge.NOTHING, OUTSIDE = Edge.OUTSIDE, OTHER = Edge.OTHER, BELOW = Edge.BELOW;
    private static final int MIN = Edge.MIN, MAX = Edge.MAX;
    private static final int BYTES = 0, SHORTS = 1, INTS = 2, MISSING = -1;

    public static void main(String[] args) {
        atFirst();
        sheet();
        sheetRefuses();
        cell();
        cellBits();
        cellRefuses();
        copy();
        copyRefuses();
        singers();
        singersLeftOut();
        singersRefuses();
        singersOutside();
        taken();
        takenRefuses();
        Due.end();
    }

    /** The newest SINGER is one of this KIND and NUMBER. */
    private static void newest(NobodyBreathes x, int kind, int number) {
        int singer = x.count(0) - 1;
        Due.is("the newest one's kind", x.told(singer, 0, 0, 0), kind);
        Due.is("the newest one's number", x.taken(singer, 0), number);
    }

    private static void atFirst() {
        Edge.sentence(0, "SHEETS 0 .. 3 are rows of numbers, or missing (as all are at first): of sort 0 bytes, 1 shorts, 2 ints.");
        NobodyBreathes x = new NobodyBreathes();
        for (int sheet = 0; sheet < 4; sheet++) {
            Due.is("missing", x.cell(sheet, 0, 0), NOTHING);
            Due.is("missing", x.who(sheet), NOTHING);
            Due.is("missing", x.sing(2 + sheet, 0), NOTHING);
        }
        for (int sort = 0; sort < 3; sort++) {
            Due.is("sort " + sort, x.sheet(sort, sort, 1), 1);
            for (int taken = 0; taken < 3; taken++) {
                Due.is("sort " + sort + " for " + taken, x.singers(sort, taken, 0, 0), sort == taken ? 0 : OTHER);
            }
        }
        Due.is("the fourth", x.cell(3, 0, 0), NOTHING);
        Due.is("no fifth", x.sheet(4, INTS, 1), BAD);
        Due.is("no sort 3", x.sheet(3, 3, 1), BAD);
    }

    private static void sheet() {
        Edge.sentence(22, "A SHEET becomes a row of n of a sort, all 0, or missing (sort -1: n does not matter): 1.");
        for (int sort = 0; sort < 3; sort++) {
            NobodyBreathes x = new NobodyBreathes();
            Due.is("of 0", x.sheet(0, sort, 0), 1);
            Due.is("it has no item", x.cell(0, 0, 0), OUTSIDE);
            Due.is("of 1", x.sheet(0, sort, 1), 1);
            Due.is("it has one", x.cell(0, 0, 0), 1);
            Due.is("it has one", x.cell(0, 1, 0), OUTSIDE);
            Due.is("of 40", x.sheet(3, sort, 40), 1);
            Due.is("it has 40", x.cell(3, 39, 0), 1);
            Due.is("it has 40", x.cell(3, 40, 0), OUTSIDE);
        }
        NobodyBreathes x = Edge.choir(140, 140);
        Due.plan(x, 0, 1, 5, 1, 6, 1, 7);
        Due.is("three", x.breaths(2, 1), 3);
        x.sheet(0, INTS, 6);
        Due.is("all 0 again", x.breaths(2, 1), 0);
        Due.is("the pair of 0 and 0", x.sing(2, 0), 2);
        x.cell(0, 5, 9);
        x.sheet(0, INTS, 2);
        x.sheet(0, SHORTS, 6);
        Due.is("nothing comes again of a longer one", x.breaths(2, 0), 1);
        for (int n : new int[] {0, 1, 40, 41, -1, MIN, MAX}) {
            x.sheet(1, BYTES, 3);
            Due.is("missing, n " + n, x.sheet(1, MISSING, n), 1);
            Due.is("missing, n " + n, x.cell(1, 0, 0), NOTHING);
            Due.is("missing already, n " + n, x.sheet(1, MISSING, n), 1);
        }
    }

    private static void sheetRefuses() {
        Edge.sentence(22, "BAD: no such SHEET, sort; n above 40; -14.");
        int[][] none = {{-1, 0, 1}, {4, 0, 1}, {MIN, 0, 1}, {MAX, 0, 1}, {0, -2, 1}, {0, 3, 1}, {0, MIN, 1}, {0, MAX, 1}, {0, 0, 41},
            {0, 1, 41}, {0, 2, 41}, {0, 2, MAX}, {4, -1, 0}, {-1, -1, 0}, {4, 0, -1}, {0, 3, -1}, {4, 0, 41}};
        for (int[] c : none) {
            Edge.refused("sheet" + Arrays.toString(c), BAD, x -> x.sheet(c[0], c[1], c[2]));
        }
        for (int sort = 0; sort < 3; sort++) {
            int asked = sort;
            Edge.refused("a size of -1, sort " + sort, BELOW, x -> x.sheet(0, asked, -1));
            Edge.refused("the least size, sort " + sort, BELOW, x -> x.sheet(3, asked, MIN));
            Edge.refused("of a missing one, sort " + sort, BELOW, x -> x.sheet(2, asked, -1));
        }
    }

    private static void cell() {
        Edge.sentence(23, "Item i of a SHEET becomes v (of bytes, shorts its lowest 8, 16 bits): 1.");
        NobodyBreathes x = new NobodyBreathes();
        x.sheet(0, INTS, 40);
        x.cell(0, 37, 3);
        x.cell(0, 38, 3907);
        Due.is("the last item", x.cell(0, 39, 5), 1);
        Due.is("they stand there", x.singers(0, INTS, 37, 1), 1);
        Due.is("kind", x.told(0, 0, 0, 0), 3);
        Due.is("number", x.taken(0, 3), 5);
        Due.is("the first item", x.cell(0, 0, 1), 1);
        x.cell(0, 1, 102);
        Due.is("a first one", x.singers(0, INTS, 0, 1), 1);
        Due.is("of kind 1", x.taken(1, 1), 0);
        for (int v : new int[] {MIN, -1, MAX}) {
            Due.is("whatever v", x.cell(0, 0, v), 1);
            Due.is("is no kind", x.singers(0, INTS, 0, 1), 0);
        }
    }

    /** Of a row of this sort that has kind 0, rest 102 and this number: whether a SINGER comes. */
    private static void comesOf(int sort, int v, int number) {
        NobodyBreathes x = new NobodyBreathes();
        x.sheet(2, sort, 3);
        x.cell(2, 1, 102);
        x.cell(2, 2, v);
        boolean comes = number >= 0 && number <= 9;
        Due.is(v + " in sort " + sort, x.singers(2, sort, 0, 1), comes ? 1 : 0);
        Due.is(v + " in sort " + sort, x.taken(0, 0), comes ? number : NOTHING);
    }

    private static void cellBits() {
        Edge.sentence(23, "(of bytes, shorts its lowest 8, 16 bits)");
        comesOf(BYTES, 9, 9);
        comesOf(BYTES, 10, 10);
        comesOf(BYTES, 127, 127);
        comesOf(BYTES, 128, -128);
        comesOf(BYTES, 255, -1);
        comesOf(BYTES, 256, 0);
        comesOf(BYTES, 256 + 9, 9);
        comesOf(BYTES, -256 + 7, 7);
        comesOf(BYTES, -1, -1);
        comesOf(BYTES, MIN, 0);
        comesOf(BYTES, MAX, -1);
        comesOf(SHORTS, 256, 256);
        comesOf(SHORTS, 65535, -1);
        comesOf(SHORTS, 65536, 0);
        comesOf(SHORTS, 65536 + 9, 9);
        comesOf(SHORTS, -65536 + 7, 7);
        comesOf(SHORTS, MIN, 0);
        comesOf(SHORTS, MAX, -1);
        comesOf(INTS, 256, 256);
        comesOf(INTS, 65536, 65536);
        comesOf(INTS, MIN, MIN);
        comesOf(INTS, 9, 9);
        NobodyBreathes x = new NobodyBreathes();
        x.sheet(0, SHORTS, 3);
        x.cell(0, 1, 3940);
        Due.is("3940 is a short", x.singers(0, SHORTS, 0, 1), 1);
        x.sheet(0, BYTES, 3);
        x.cell(0, 1, 1024 + 102);
        Due.is("102 are the lowest 8 bits of 1126", x.singers(0, BYTES, 0, 1), 1);
        Due.is("so it is voice 0", x.told(1, 0, 0, 1), 0);
    }

    private static void cellRefuses() {
        Edge.sentence(23, "BAD: no such SHEET; -11; -12.");
        for (int sheet : new int[] {-1, 4, MIN, MAX}) {
            Edge.refused("cell(" + sheet + ",0,1)", BAD, x -> x.cell(sheet, 0, 1));
            Edge.refused("cell(" + sheet + ",40,1)", BAD, x -> x.cell(sheet, 40, 1));
        }
        for (int i : new int[] {0, -1, 40, MIN, MAX}) {
            Edge.refused("cell(2," + i + ",1)", NOTHING, x -> x.cell(2, i, 1));
        }
        for (int i : new int[] {-1, 40, MIN, MAX}) {
            Edge.refused("cell(3," + i + ",1)", OUTSIDE, x -> x.cell(3, i, 1));
        }
        Edge.refused("cell(1,3,1)", OUTSIDE, x -> x.cell(1, 3, 1));
        Edge.refused("cell(0,6,1)", OUTSIDE, x -> x.cell(0, 6, 1));
        Edge.refused("cell(1,0,1) of none", OUTSIDE, () -> {
            NobodyBreathes x = Edge.piece();
            x.sheet(1, INTS, 0);
            return x;
        }, x -> x.cell(1, 0, 1));
    }

    /** Ints: kind 0, rest 102, and then numbers, so that each of them but the first two can be asked by a SINGER. */
    private static NobodyBreathes row(int... numbers) {
        NobodyBreathes x = new NobodyBreathes();
        x.sheet(0, INTS, numbers.length);
        for (int i = 0; i < numbers.length; i++) {
            x.cell(0, i, numbers[i]);
        }
        return x;
    }

    private static void copy() {
        Edge.sentence(24, "n numbers of a SHEET, from item i on, come to another one's item j on (as they were): n.");
        NobodyBreathes x = row(0, 102, 7, 0, 103, 8);
        x.sheet(1, INTS, 6);
        Due.is("all", x.copy(0, 0, 1, 0, 6), 6);
        Due.is("they came", x.singers(1, INTS, 0, 2), 2);
        Due.is("the first", x.taken(0, 0), 7);
        Due.is("the last", x.taken(1, 0), 8);
        Due.is("they stay, too", x.singers(0, INTS, 0, 2), 2);
        Due.is("one item to the last place", x.copy(0, 2, 1, 5, 1), 1);
        Due.is("it came", x.singers(1, INTS, 3, 1), 1);
        newest(x, 0, 7);
        Due.is("the last item to the first place", x.copy(0, 5, 1, 0, 1), 1);
        Due.is("8 is no kind", x.singers(1, INTS, 0, 1), 0);
        Due.is("none at the ends", x.copy(0, 6, 1, 6, 0), 0);
        Due.is("none at the start", x.copy(0, 0, 1, 0, 0), 0);
        x.sheet(2, INTS, 0);
        x.sheet(3, INTS, 0);
        Due.is("none of none", x.copy(2, 0, 3, 0, 0), 0);
        NobodyBreathes up = row(1, 102, 2, 4, 105, 6, 0);
        Due.is("up by one in the same row", up.copy(0, 0, 0, 1, 6), 6);
        Due.is("as they were", up.singers(0, INTS, 1, 2), 2);
        Due.is("as they were", up.taken(0, 1), 2);
        Due.is("as they were", up.taken(1, 4), 6);
        NobodyBreathes down = row(0, 1, 102, 2, 4, 105, 6);
        Due.is("down by one in the same row", down.copy(0, 1, 0, 0, 6), 6);
        Due.is("as they were", down.singers(0, INTS, 0, 2), 2);
        Due.is("as they were", down.taken(0, 1), 2);
        Due.is("as they were", down.taken(1, 4), 6);
        Due.is("each onto itself", down.copy(0, 0, 0, 0, 7), 7);
        Due.is("as they were", down.singers(0, INTS, 3, 1), 1);
        newest(down, 4, 6);
        for (int sort = 0; sort < 3; sort++) {
            NobodyBreathes y = new NobodyBreathes();
            y.sheet(1, sort, 3);
            y.sheet(3, sort, 40);
            y.cell(1, 1, 102);
            y.cell(1, 2, 4);
            Due.is("of sort " + sort, y.copy(1, 0, 3, 37, 3), 3);
            Due.is("of sort " + sort, y.singers(3, sort, 37, 1), 1);
            Due.is("of sort " + sort, y.taken(0, 0), 4);
        }
    }

    /** SHEETS: 0 ints of 6, 1 bytes of 3, 2 missing, 3 ints of 40. */
    private static NobodyBreathes rows() {
        NobodyBreathes x = Edge.piece();
        x.sheet(3, INTS, 40);
        x.cell(3, 0, 1);
        x.cell(3, 1, 11);
        return x;
    }

    private static void copyRefuses() {
        Edge.sentence(24, "BAD: no such SHEET; -11; -13: they are of unlike sorts; -12 (also with n below 0).");
        int[][] bad = {{-1, 0, 0, 0, 1}, {4, 0, 0, 0, 1}, {0, 0, -1, 0, 1}, {0, 0, 4, 0, 1}, {2, 0, 4, 0, 1}, {4, 0, 2, 0, 1},
            {MIN, 0, 0, 0, 1}, {0, 0, MAX, 0, 1}, {4, -1, 0, 0, -1}};
        for (int[] c : bad) {
            Edge.refused("copy" + Arrays.toString(c), BAD, EdgesOfHostTest::rows, x -> x.copy(c[0], c[1], c[2], c[3], c[4]));
        }
        int[][] nothing = {{2, 0, 0, 0, 1}, {0, 0, 2, 0, 1}, {2, 0, 2, 0, 0}, {2, -1, 0, 0, 1}, {0, 99, 2, 0, 1}, {1, 0, 2, 0, -1}, {2, 0, 0, 0, 0}};
        for (int[] c : nothing) {
            Edge.refused("copy" + Arrays.toString(c), NOTHING, EdgesOfHostTest::rows, x -> x.copy(c[0], c[1], c[2], c[3], c[4]));
        }
        int[][] other = {{0, 0, 1, 0, 1}, {1, 0, 0, 0, 1}, {1, 0, 3, 0, 0}, {0, -1, 1, 0, 1}, {0, 0, 1, 9, 1}, {0, 0, 1, 0, -1}};
        for (int[] c : other) {
            Edge.refused("copy" + Arrays.toString(c), OTHER, EdgesOfHostTest::rows, x -> x.copy(c[0], c[1], c[2], c[3], c[4]));
        }
        int[][] outside = {{0, 0, 3, 0, 7}, {0, 6, 3, 0, 1}, {0, 5, 3, 0, 2}, {0, 7, 3, 0, 0}, {0, -1, 3, 0, 1}, {0, -1, 3, 0, 0},
            {3, 0, 0, 0, 7}, {3, 0, 0, 6, 1}, {3, 0, 0, 5, 2}, {3, 0, 0, 7, 0}, {3, 0, 0, -1, 1}, {3, 0, 0, -1, 0}, {0, 0, 3, 0, -1},
            {0, 0, 3, 0, MIN}, {0, 0, 3, 0, MAX}, {0, MAX, 3, 0, 1}, {0, MAX, 3, 0, MAX}, {0, 1, 3, 0, MAX}, {3, 0, 0, MAX, 1},
            {0, MIN, 3, 0, 1}, {3, 0, 0, MIN, 1}, {3, 0, 3, 1, 40}, {3, 1, 3, 0, 40}, {3, 41, 3, 0, 0}, {0, 2, 3, 0, -2}, {0, 1, 3, 1, -1}};
        for (int[] c : outside) {
            Edge.refused("copy" + Arrays.toString(c), OUTSIDE, EdgesOfHostTest::rows, x -> x.copy(c[0], c[1], c[2], c[3], c[4]));
        }
    }

    private static void singers() {
        Edge.sentence(25, "SINGERS by a SHEET that is taken for one of a sort: from one on, three by three (as of singer()), n of them (0 .. 10):");
        NobodyBreathes x = row(9, 5, 3940, 9, 0, 102, 0);
        Due.is("none", x.singers(0, INTS, 0, 0), 0);
        Due.is("none from the end on", x.singers(0, INTS, 7, 0), 0);
        Due.is("nobody came", x.count(0), 0);
        Due.is("two, to the last item", x.singers(0, INTS, 1, 2), 2);
        int[][] due = {{5, 3, 1, 18, 1, 40}, {0, 0, 1, 1, 1, 2}};
        for (int i = 0; i < 2; i++) {
            Due.is("kind", x.told(i, 0, 0, 0), due[i][0]);
            Due.is("voice", x.told(i, 0, 0, 1), due[i][1]);
            Due.is("takes", x.told(i, 0, 0, 3), due[i][3]);
            Due.is("hold", x.told(i, 0, 0, 5), due[i][5]);
            Due.is("number", x.taken(i, 0), 9 - 9 * i);
        }
        NobodyBreathes ten = new NobodyBreathes();
        ten.sheet(0, INTS, 40);
        for (int k = 0; k < 10; k++) {
            ten.cell(0, 10 + 3 * k, k % 6);
            ten.cell(0, 11 + 3 * k, 110 + k);
            ten.cell(0, 12 + 3 * k, 9 - k);
        }
        Due.is("ten, to the last item of 40", ten.singers(0, INTS, 10, 10), 10);
        for (int i = 0; i < 10; i++) {
            Due.is("kind", ten.told(i, 0, 0, 0), i % 6);
            Due.is("hold", ten.told(i, 0, 0, 5), 10 + i);
            Due.is("number", ten.taken(i, 0), 9 - i);
        }
    }

    private static void singersLeftOut() {
        Edge.sentence(25, "how many came (others are left out).");
        NobodyBreathes x = row(6, 102, 0, 0, 101, 0, 0, 102, 10, 0, 102, 4, -1, 102, 0);
        Due.is("one of five", x.singers(0, INTS, 0, 5), 1);
        Due.is("that one", x.taken(0, 0), 4);
        Due.is("none of one", x.singers(0, INTS, 0, 1), 0);
        NobodyBreathes y = Edge.choir(140, 140, 140, 140, 140, 140, 140, 140);
        Due.plan(y, 0, 0, 102, 1, 0, 102, 2, 0, 102, 3, 0, 102, 4);
        Due.is("two have room", y.singers(0, INTS, 0, 4), 2);
        Due.is("the last one", y.taken(9, 0), 2);
        Due.is("none has room", y.singers(0, INTS, 0, 4), 0);
        Due.is("ten", y.count(0), 10);
    }

    private static void singersRefuses() {
        Edge.sentence(25, "BAD: no such SHEET, sort, n; -13; -11;");
        int[][] bad = {{-1, 0, 0, 1}, {4, 0, 0, 1}, {MIN, 0, 0, 1}, {MAX, 0, 0, 1}, {0, -1, 0, 1}, {0, 3, 0, 1}, {0, MIN, 0, 1},
            {0, MAX, 0, 1}, {0, 2, 0, -1}, {0, 2, 0, 11}, {0, 2, 0, MIN}, {0, 2, 0, MAX}, {2, 3, 0, 1}, {2, -1, 0, 1}, {2, 0, 0, 11},
            {0, 0, 0, 11}, {0, 0, 0, -1}};
        for (int[] c : bad) {
            Edge.refused("singers" + Arrays.toString(c), BAD, x -> x.singers(c[0], c[1], c[2], c[3]));
        }
        int[][] other = {{0, 0, 0, 1}, {0, 1, 0, 1}, {1, 1, 0, 1}, {1, 2, 0, 1}, {3, 0, 0, 1}, {3, 2, 0, 1}, {0, 0, -1, 1}, {0, 1, 99, 10}, {0, 1, 0, 0}};
        for (int[] c : other) {
            Edge.refused("singers" + Arrays.toString(c), OTHER, x -> x.singers(c[0], c[1], c[2], c[3]));
        }
        for (int sort = 0; sort < 3; sort++) {
            int asked = sort;
            Edge.refused("missing, sort " + sort, NOTHING, x -> x.singers(2, asked, 0, 1));
            Edge.refused("missing, from outside, sort " + sort, NOTHING, x -> x.singers(2, asked, -1, 10));
            Edge.refused("missing, none of it, sort " + sort, NOTHING, x -> x.singers(2, asked, 0, 0));
        }
    }

    private static void singersOutside() {
        Edge.sentence(25, "-12: what stood ahead came.");
        NobodyBreathes x = row(0, 102, 1, 0, 103, 2, 0, 104);
        Due.is("the third lacks one number", x.singers(0, INTS, 0, 3), OUTSIDE);
        Due.is("two came", x.count(0), 2);
        Due.is("the second", x.taken(1, 0), 2);
        Due.is("one and a half", x.singers(0, INTS, 3, 2), OUTSIDE);
        Due.is("one more came", x.count(0), 3);
        Due.is("that one", x.taken(2, 0), 2);
        x.cell(0, 3, 6);
        Due.is("one of two is none such", x.singers(0, INTS, 0, 10), OUTSIDE);
        Due.is("the first one came", x.count(0), 4);
        for (int from : new int[] {-1, -3, 6, 7, 8, 9, MIN, MAX, MAX - 1, MAX - 2}) {
            Edge.refused("from " + from, OUTSIDE, EdgesOfHostTest::rows, y -> y.singers(0, INTS, from, 1));
            Edge.refused("ten from " + from, OUTSIDE, EdgesOfHostTest::rows, y -> y.singers(0, INTS, from, 10));
        }
        Edge.refused("two of a row of bytes of 3", OUTSIDE, () -> {
            NobodyBreathes y = Edge.piece();
            y.cell(1, 0, 6);
            return y;
        }, y -> y.singers(1, BYTES, 0, 2));
        Edge.refused("of a row of none", OUTSIDE, () -> {
            NobodyBreathes y = Edge.piece();
            y.sheet(0, INTS, 0);
            return y;
        }, y -> y.singers(0, INTS, 0, 1));
        Edge.refused("none has room, and it is outside", OUTSIDE, Edge::fullChoir, y -> y.singers(0, INTS, 0, 3));
    }

    private static void taken() {
        Edge.sentence(26, "A SINGER taken for one of KIND k (0 .. 5), or one under that one (also by others between): his NUMBER.");
        NobodyBreathes x = new NobodyBreathes();
        int[] kinds = {0, 1, 2, 3, 4, 5};
        for (int kind : kinds) {
            x.singer(kind, 102, kind == 0 ? 0 : kind == 5 ? 9 : kind);
        }
        Due.is("number 0", x.taken(0, 0), 0);
        Due.is("a soft one", x.taken(1, 1), 1);
        Due.is("a soft one, by one above", x.taken(1, 0), 1);
        Due.is("a tired one", x.taken(2, 2), 2);
        Due.is("a tired one, by one above", x.taken(2, 0), 2);
        Due.is("an old one", x.taken(3, 3), 3);
        Due.is("an old one, by one above", x.taken(3, 2), 3);
        Due.is("an old one, by one between", x.taken(3, 0), 3);
        Due.is("a low one", x.taken(4, 4), 4);
        Due.is("a low one, by one above", x.taken(4, 1), 4);
        Due.is("a low one, by one between", x.taken(4, 0), 4);
        Due.is("a cold one, number 9", x.taken(5, 5), 9);
        Due.is("a cold one, by one above", x.taken(5, 0), 9);
        Due.is("the tenth", Edge.fullChoir().taken(9, 0), 9);
    }

    private static void takenRefuses() {
        Edge.sentence(26, "BAD: k; -11: no such SINGER; -13.");
        for (int k : new int[] {-1, 6, MIN, MAX}) {
            Edge.refused("taken(0," + k + ")", BAD, x -> x.taken(0, k));
            Edge.refused("taken(3," + k + ")", BAD, x -> x.taken(3, k));
        }
        for (int singer : new int[] {-1, 3, 9, 10, MIN, MAX}) {
            Edge.refused("taken(" + singer + ",0)", NOTHING, x -> x.taken(singer, 0));
            Edge.refused("taken(" + singer + ",5)", NOTHING, x -> x.taken(singer, 5));
        }
        Edge.refused("taken(10,0) of ten", NOTHING, Edge::fullChoir, x -> x.taken(10, 0));
        Edge.refused("taken(0,0) of nobody", NOTHING, Edge::fullTexts, x -> x.taken(0, 0));
        int[][] others = {{0, 1, 2, 3, 4, 5}, {2, 3, 4, 5}, {1, 3, 4, 5}, {1, 4, 5}, {2, 3, 5}, {1, 2, 3, 4}};
        NobodyBreathes x = new NobodyBreathes();
        for (int kind = 0; kind < 6; kind++) {
            x.singer(kind, 102, 0);
        }
        for (int kind = 0; kind < 6; kind++) {
            for (int k : others[kind]) {
                if (k != kind) Due.is("taken(" + kind + "," + k + ")", x.taken(kind, k), OTHER);
            }
        }
        Edge.refused("an old one is no soft one", OTHER, y -> y.taken(2, 1));
    }
}
