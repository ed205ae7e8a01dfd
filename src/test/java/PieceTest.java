/** Promises 1 to 5: a new object, set, singer, voice, told. */
public final class PieceTest {
    private static final int BAD = NobodyBreathes.BAD, FULL = NobodyBreathes.FULL;

    public static void main(String[] args) {
        newObject();
        set();
        setRefuses();
        singer();
        singerRefuses();
        voice();
        canHold();
        canHoldAtLeastOne();
        takes();
        says();
        toldRefuses();
        Due.end();
    }

    private static void newObject() {
        NobodyBreathes x = new NobodyBreathes();
        int[] counts = {0, 24, 0, 0, 1, 0, 0, 0};
        for (int what = 0; what < counts.length; what++) {
            Due.is("new: count(" + what + ")", x.count(what), counts[what]);
        }
        for (int s = 0; s < 48; s++) {
            Due.is("new: loud of " + s, x.set(0, s, 3), 3);
            Due.is("new: bar of " + s, x.set(1, s, 0), 0);
            Due.is("new: s of " + s, x.set(2, s, 0), 0);
        }
        Due.is("new: echo", x.set(5, 0, 0), 0);
        Due.is("new: no image", x.back(), NobodyBreathes.STATE);
        for (int i = 0; i < 4; i++) {
            Due.is("new: sheet " + i, x.who(i), -11);
        }
    }

    private static void set() {
        NobodyBreathes x = new NobodyBreathes();
        Due.is("loud 9", x.set(0, 47, 9), 3);
        Due.is("loud 0", x.set(0, 47, 0), 9);
        Due.is("loud of another step", x.set(0, 46, 3), 3);
        Due.is("bar", x.set(1, 47, 1), 0);
        Due.is("bar again", x.set(1, 47, 0), 1);
        Due.is("s", x.set(2, 0, 1), 0);
        Due.is("s again", x.set(2, 0, 0), 1);
        Due.is("bar is not s", x.set(1, 0, 0), 0);
        Due.is("least", x.set(3, 3, 9), 0);
        Due.is("least again", x.set(3, 3, 0), 9);
        Due.is("last, wherever", x.set(4, -77, 48), 24);
        Due.is("last 1", x.set(4, 1000, 1), 48);
        Due.is("a step beyond last has a loud", x.set(0, 40, 5), 3);
        Due.is("echo, wherever", x.set(5, -77, 5), 0);
        Due.is("echo 0", x.set(5, 1000, 0), 5);
    }

    private static void setRefuses() {
        NobodyBreathes x = new NobodyBreathes();
        int[][] calls = {{-1, 0, 0}, {6, 0, 0}, {0, -1, 0}, {0, 48, 0}, {0, 0, -1}, {0, 0, 10}, {1, -1, 0}, {1, 48, 0},
            {1, 0, -1}, {1, 0, 2}, {2, -1, 0}, {2, 48, 0}, {2, 0, -1}, {2, 0, 2}, {3, -1, 0}, {3, 4, 0}, {3, 0, -1},
            {3, 0, 10}, {4, 0, 0}, {4, 0, 49}, {4, 0, -1}, {5, 0, -1}, {5, 0, 6}, {0, Integer.MIN_VALUE, 0}};
        for (int[] c : calls) {
            Due.is("set(" + c[0] + "," + c[1] + "," + c[2] + ")", x.set(c[0], c[1], c[2]), BAD);
        }
        Due.is("refused: loud stays", x.set(0, 0, 3), 3);
        Due.is("refused: bar stays", x.set(1, 0, 0), 0);
        Due.is("refused: s stays", x.set(2, 0, 0), 0);
        Due.is("refused: least stays", x.set(3, 0, 0), 0);
        Due.is("refused: last stays", x.set(4, 0, 24), 24);
        Due.is("refused: echo stays", x.set(5, 0, 0), 0);
    }

    private static void singer() {
        NobodyBreathes x = new NobodyBreathes();
        int[][] calls = {{0, 102, 0}, {5, 3940, 9}, {3, 1307, 4}, {1, 2540, 1}, {2, 999 - 59, 8}, {4, 1102, 5}};
        int[] voices = {0, 3, 1, 2, 0, 1};
        int[] holds = {2, 40, 7, 40, 40, 2};
        int[] takes = {1, 18, 3, 5, 9, 1};
        for (int i = 0; i < calls.length; i++) {
            Due.is("singer " + i, x.singer(calls[i][0], calls[i][1], calls[i][2]), i);
        }
        for (int i = 0; i < calls.length; i++) {
            Due.is("kind of " + i, x.told(i, 0, 0, 0), calls[i][0]);
            Due.is("voice of " + i, x.told(i, 0, 0, 1), voices[i]);
            Due.is("hold of " + i, x.told(i, 0, 0, 5), holds[i]);
            Due.is("takes of " + i, x.told(i, 0, 0, 3), takes[i]);
            Due.is("number of " + i, x.taken(i, 0), calls[i][2]);
        }
        Due.is("singers", x.count(0), 6);
    }

    private static void singerRefuses() {
        NobodyBreathes x = new NobodyBreathes();
        int[][] calls = {{-1, 102, 0}, {6, 102, 0}, {0, 101, 0}, {0, 141, 0}, {0, 100, 0}, {0, 199, 0}, {0, 2, 0}, {0, 40, 0},
            {0, 1002, 0}, {0, 4102, 0}, {0, -102, 0}, {0, -1, 0}, {0, 102, -1}, {0, 102, 10}, {0, Integer.MAX_VALUE, 0},
            {0, Integer.MIN_VALUE, 0}};
        for (int[] c : calls) {
            Due.is("singer(" + c[0] + "," + c[1] + "," + c[2] + ")", x.singer(c[0], c[1], c[2]), BAD);
        }
        Due.is("none came", x.count(0), 0);
        for (int i = 0; i < 10; i++) {
            Due.is("singer " + i, x.singer(0, 102, 0), i);
        }
        Due.is("the eleventh", x.singer(0, 102, 0), FULL);
        Due.is("a bad eleventh", x.singer(0, 101, 0), BAD);
        Due.is("ten", x.count(0), 10);
    }

    private static void voice() {
        NobodyBreathes x = new NobodyBreathes();
        x.singer(0, 1102, 0);
        x.singer(0, 2102, 0);
        Due.is("voice", x.voice(0, 3), 1);
        Due.is("voice again", x.voice(0, 0), 3);
        Due.is("another's voice", x.told(1, 0, 0, 1), 2);
        Due.is("his voice", x.told(0, 0, 0, 1), 0);
        int[][] calls = {{-1, 0}, {2, 0}, {9, 0}, {10, 0}, {0, -1}, {0, 4}};
        for (int[] c : calls) {
            Due.is("voice(" + c[0] + "," + c[1] + ")", x.voice(c[0], c[1]), BAD);
        }
        Due.is("refused: it stays", x.told(0, 0, 0, 1), 0);
    }

    /** Of each kind: hold 30, number 5. */
    private static NobodyBreathes sixKinds() {
        NobodyBreathes x = new NobodyBreathes();
        for (int kind = 0; kind < 6; kind++) {
            x.singer(kind, 230, 5);
        }
        x.set(0, 1, 0);
        x.set(0, 2, 9);
        return x;
    }

    private static void canHold() {
        NobodyBreathes x = sixKinds();
        // by loud 3, 0, 9, having breathed 4 times
        int[][] due = {{27, 30, 21}, {28, 30, 25}, {23, 26, 17}, {18, 21, 12}, {33, 35, 30}, {13, 15, 10}};
        for (int kind = 0; kind < 6; kind++) {
            for (int step = 0; step < 3; step++) {
                Due.is("can hold, kind " + kind + " step " + step, x.told(kind, 4, step, 2), due[kind][step]);
            }
        }
        Due.is("a tired one at first", x.told(2, 0, 0, 2), 27);
        Due.is("a tired one at last", x.told(2, 48, 0, 2), 1);
        Due.is("a step beyond last", x.told(0, 0, 47, 2), 27);
    }

    private static void canHoldAtLeastOne() {
        NobodyBreathes x = new NobodyBreathes();
        for (int kind = 0; kind < 6; kind++) {
            x.singer(kind, 102, 1);
        }
        x.set(0, 0, 9);
        for (int kind = 0; kind < 6; kind++) {
            Due.is("1 at least, kind " + kind, x.told(kind, 9, 0, 2), 1);
        }
        x.singer(4, 102, 9);
        Due.is("a low one is bounded at the end only", x.told(6, 0, 0, 2), 2 - 9 + 4 + 9);
    }

    private static void takes() {
        NobodyBreathes x = sixKinds();
        int[] early = {2, 2, 2, 2, 2, 4};
        int[] late = {2, 2, 3, 3, 2, 4};
        for (int kind = 0; kind < 6; kind++) {
            Due.is("takes, twice, kind " + kind, x.told(kind, 2, 0, 3), early[kind]);
            Due.is("takes, three times, kind " + kind, x.told(kind, 3, 0, 3), late[kind]);
            Due.is("takes, at last, kind " + kind, x.told(kind, 48, 0, 3), late[kind]);
        }
    }

    private static void says() {
        NobodyBreathes x = new NobodyBreathes();
        x.set(0, 1, 4);
        x.set(0, 2, 5);
        for (int i = 0; i < 10; i++) {
            x.singer(i < 6 ? i : i - 6, 102, i < 6 ? 2 : 3);
        }
        int[] even = {1, 0, 1, 1, 0, 1};
        int[] evenLoud = {1, 0, 1, 0, 0, 1};
        for (int kind = 0; kind < 6; kind++) {
            Due.is("says, loud 4, kind " + kind, x.told(kind, 0, 1, 4), even[kind]);
            Due.is("says, loud 5, kind " + kind, x.told(kind, 0, 2, 4), evenLoud[kind]);
        }
        for (int i = 6; i < 10; i++) {
            Due.is("an odd number says none, kind " + (i - 6), x.told(i, 0, 1, 4), 0);
        }
        NobodyBreathes y = new NobodyBreathes();
        y.singer(5, 102, 3);
        Due.is("a cold one says it", y.told(0, 0, 0, 4), 1);
    }

    private static void toldRefuses() {
        NobodyBreathes x = sixKinds();
        int[][] calls = {{-1, 0, 0, 0}, {6, 0, 0, 0}, {10, 0, 0, 0}, {0, -1, 0, 0}, {0, 49, 0, 0}, {0, 0, -1, 0},
            {0, 0, 48, 0}, {0, 0, 0, -1}, {0, 0, 0, 6}};
        for (int[] c : calls) {
            Due.is("told(" + c[0] + "," + c[1] + "," + c[2] + "," + c[3] + ")", x.told(c[0], c[1], c[2], c[3]), BAD);
        }
    }
}
