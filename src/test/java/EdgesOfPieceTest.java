import java.util.Arrays;
import java.util.HashSet;
import java.util.Set;

/** Boundary cases of promises 1 to 5 and of the terms that they use: each method or block names its sentence first. */
public final class EdgesOfPieceTest {
    private static final int BAD = Edge.BAD, FULL = Edge.FULL, MIN = Edge.MIN, MAX = Edge.MAX;
    private static final int LOUD = 0, BAR = 1, S = 2, LEAST = 3, LAST = 4, ECHO = 5;
    private static final int KIND = 0, VOICE = 1, CAN_HOLD = 2, TAKES = 3, SAYS = 4, HOLD = 5;

    public static void main(String[] args) {
        constants();
        calls512();
        refusals();
        newObject();
        steps();
        ofSteps();
        voices();
        echo();
        setWasAndBad();
        kinds();
        singerNumbers();
        singerRests();
        singerBadThenFull();
        voice();
        told();
        canHold();
        oneAtLeast();
        takes();
        says();
        Due.end();
    }

    private static void constants() {
        Edge.sentence(0, "public static final int NONE = -1, BAD = -2, STATE = -3, FULL = -4;");
        Due.is("NONE", NobodyBreathes.NONE, -1);
        Due.is("BAD", NobodyBreathes.BAD, -2);
        Due.is("STATE", NobodyBreathes.STATE, -3);
        Due.is("FULL", NobodyBreathes.FULL, -4);
        Edge.sentence(0, "public static final long NO = -4611686018427387904L;");
        Due.is("NO", NobodyBreathes.NO, -4611686018427387904L);
        Edge.sentence(0, "NONE is -1; NO, where a long is answered, -4611686018427387904.");
        NobodyBreathes x = new NobodyBreathes();
        Due.is("nothing is wrong", x.wrong(6), -1);
        Due.is("bad of none such", x.bad(7), -4611686018427387904L);
        Due.is("lent of none such", x.lent(6, 0, 0), -4611686018427387904L);
        Due.is("lost of none such", x.lost(6, 0, 0), -4611686018427387904L);
    }

    private static void calls512() {
        Edge.sentence(0, "An object is used for at most 512 calls after it has been made; what later calls answer is free.");
        NobodyBreathes x = new NobodyBreathes();
        Due.is("call 1", x.singer(0, 105, 0), 0);
        for (int call = 2; call <= 511; call++) {
            Due.is("call " + call, x.set(LOUD, call % 48, 3), 3);
        }
        Due.is("call 512", x.sing(6, 2), 0);
        NobodyBreathes y = new NobodyBreathes();
        for (int call = 1; call <= 512; call += 2) {
            Due.is("call " + call, y.feed(1, '?'), 1);
            Due.is("call " + (call + 1), y.text(), -100);
        }
    }

    private static void refusals() {
        Edge.sentence(0, "Refusals, the first that the call's words name; they change nothing: BAD (-2: a number is none such or not as told), STATE (-3), FULL (-4);");
        Edge.refused("of two bad numbers", -2, x -> x.set(-1, 48, 10));
        Edge.refused("no image, none other is named", -3, NobodyBreathes::new, x -> x.back());
        Edge.refused("an eleventh", -4, Edge::fullChoir, x -> x.singer(0, 102, 0));
        Edge.refused("BAD ahead of FULL", -2, Edge::fullChoir, x -> x.singer(0, 101, 0));
        Edge.refused("BAD ahead of -11", -2, x -> x.sing(4, 20));
        Edge.sentence(0, "the host's: -11 nothing where something is asked, -12 a place outside, -13 a thing of another sort or KIND, -14 a size below 0.");
        Edge.refused("a missing row", -11, x -> x.cell(2, 0, 0));
        Edge.refused("no such singer", -11, x -> x.taken(3, 0));
        Edge.refused("a place outside", -12, x -> x.cell(1, 3, 0));
        Edge.refused("a row of another sort", -13, x -> x.singers(0, 1, 0, 1));
        Edge.refused("a singer of another kind", -13, x -> x.taken(2, 1));
        Edge.refused("a size below 0", -14, x -> x.sheet(0, 2, -1));
    }

    private static void newObject() {
        Edge.sentence(1, "No SINGERS; 24 STEPS.");
        Edge.piece();
        NobodyBreathes x = new NobodyBreathes();
        int[] counts = {0, 24, 0, 0, 1, 0, 0, 0};
        for (int what = 0; what < counts.length; what++) {
            Due.is("count(" + what + ")", x.count(what), counts[what]);
        }
        Due.is("no singer 0", x.told(0, 0, 0, KIND), BAD);
        Due.is("no singer 0", x.voice(0, 0), BAD);
        Due.is("no singer 0", x.taken(0, 0), -11);
        Due.is("of all nobody breathes", x.breaths(6, -1), 0);
        Due.is("the last step", x.sing(6, 23), 0);
        Due.is("no step more", x.sing(6, 24), BAD);
        Due.is("no image", x.back(), -3);
        Due.is("the first singer", x.singer(0, 102, 0), 0);
    }

    private static void steps() {
        Edge.sentence(0, "STEPS are 0 .. 47 (LAST: how many there are, 1 .. 48; 24 at first):");
        NobodyBreathes x = Edge.choir(140);
        Due.is("24 at first", x.set(LAST, 0, 1), 24);
        Due.is("step 0 of one", x.sing(6, 0), 1);
        Due.is("step 1 of one", x.sing(6, 1), BAD);
        Due.is("one becomes 48", x.set(LAST, 0, 48), 1);
        Due.is("step 47 of 48", x.sing(6, 46), 1);
        Due.is("step 47 of 48", x.of(6, 47, 0), 1);
        Due.is("step 48 of 48", x.sing(6, 48), BAD);
        Due.is("step -1", x.sing(6, -1), BAD);
        Due.is("step 47 can be told", x.told(0, 0, 47, HOLD), 40);
        Due.is("step 48 can't", x.told(0, 0, 48, HOLD), BAD);
    }

    private static void ofSteps() {
        Edge.sentence(0, "LOUD of each (0 .. 9; 3 at first), BAR (1) or not (0, at first), an S (1: few may say it) or not (0, at first).");
        NobodyBreathes x = new NobodyBreathes();
        int[] first = {3, 0, 0};
        int[] most = {9, 1, 1};
        for (int what = LOUD; what <= S; what++) {
            for (int s = 0; s < 48; s++) {
                Due.is("at first " + what + " of " + s, x.set(what, s, most[what]), first[what]);
            }
            for (int s = 0; s < 48; s++) {
                Due.is("the most " + what + " of " + s, x.set(what, s, 0), most[what]);
            }
            Due.is("the least " + what, x.set(what, 47, 0), 0);
        }
        x.set(LAST, 0, 1);
        Due.is("a step beyond LAST keeps its own", x.set(LOUD, 47, 5), 0);
        Due.is("a step beyond LAST keeps its own", x.set(LOUD, 47, 0), 5);
    }

    private static void voices() {
        Edge.sentence(0, "VOICES 0 .. 3: LEAST of each (0 .. 9 singers; 0 at first).");
        NobodyBreathes x = new NobodyBreathes();
        for (int v = 0; v < 4; v++) {
            Due.is("at first", x.set(LEAST, v, 9), 0);
        }
        Due.is("nine each", x.count(7), 36);
        Due.is("nine becomes 0", x.set(LEAST, 3, 0), 9);
        Due.is("ten is too many", x.set(LEAST, 3, 10), BAD);
        Due.is("no voice 4", x.set(LEAST, 4, 0), BAD);
        Due.is("it stays", x.count(7), 27);
    }

    private static void echo() {
        Edge.sentence(0, "ECHO (0 .. 5; 0 at first).");
        NobodyBreathes x = new NobodyBreathes();
        Due.is("at first", x.set(ECHO, 0, 5), 0);
        Due.is("six is too many", x.set(ECHO, 0, 6), BAD);
        Due.is("five becomes 0", x.set(ECHO, 0, 0), 5);
        Due.is("below 0", x.set(ECHO, 0, -1), BAD);
        Due.is("it stays", x.set(ECHO, 0, 0), 0);
    }

    private static void setRefused(int what, int at, int v) {
        Edge.refused("set(" + what + "," + at + "," + v + ")", BAD, x -> x.set(what, at, v));
    }

    private static void setWasAndBad() {
        Edge.sentence(2, "LOUD (what 0), BAR (1), S (2) of a STEP, LEAST (3) of a VOICE, LAST (4), ECHO (5; at does not matter) become v: what it was.");
        NobodyBreathes x = new NobodyBreathes();
        int[] ends = {47, 47, 47, 3, 0, 0};
        int[] low = {0, 0, 0, 0, 1, 0};
        int[] high = {9, 1, 1, 9, 48, 5};
        for (int what = 0; what < 6; what++) {
            for (int at = 0; at <= ends[what]; at += Math.max(1, ends[what])) {
                x.set(what, at, high[what]);
                Due.is("the high one was, " + what, x.set(what, at, low[what]), high[what]);
                Due.is("the low one was, " + what, x.set(what, at, low[what]), low[what]);
                Due.is("it stayed, " + what, x.set(what, at, high[what]), low[what]);
            }
        }
        Due.is("echo at the least int", x.set(ECHO, MIN, 1), 5);
        Due.is("echo at the greatest int", x.set(ECHO, MAX, 2), 1);
        Due.is("echo at -1", x.set(ECHO, -1, 3), 2);
        Edge.sentence(2, "BAD.");
        for (int what : new int[] {-1, 6, MIN, MAX}) {
            setRefused(what, 0, 1);
        }
        for (int what = LOUD; what <= LEAST; what++) {
            for (int at : new int[] {-1, ends[what] + 1, MIN, MAX}) {
                setRefused(what, at, 1);
            }
        }
        for (int what = LOUD; what <= ECHO; what++) {
            for (int v : new int[] {low[what] - 1, high[what] + 1, MIN, MAX}) {
                setRefused(what, 0, v);
            }
        }
    }

    private static void kinds() {
        Edge.sentence(0, "have a KIND: 0 SINGER, 1 SOFT under SINGER, 2 TIRED under SINGER, 3 OLD under TIRED, 4 LOW under SOFT, 5 COLD under SINGER;");
        NobodyBreathes x = new NobodyBreathes();
        for (int kind = 0; kind < 6; kind++) {
            Due.is("kind " + kind, x.singer(kind, 102, 9 - kind), kind);
            Due.is("kind " + kind, x.told(kind, 0, 0, KIND), kind);
        }
        int[][] above = {{0}, {0, 1}, {0, 2}, {0, 2, 3}, {0, 1, 4}, {0, 5}};
        for (int kind = 0; kind < 6; kind++) {
            for (int k = 0; k < 6; k++) {
                int asked = k;
                boolean is = Arrays.stream(above[kind]).anyMatch(a -> a == asked);
                Due.is("kind " + kind + " for " + k, x.taken(kind, k), is ? 9 - kind : -13);
            }
        }
        Due.is("no kind 6", x.singer(6, 102, 0), BAD);
        Due.is("no kind -1", x.singer(-1, 102, 0), BAD);
    }

    private static void singerNumbers() {
        Edge.sentence(0, "SINGERS (10 at most, numbered from 0, who stand side by side by numbers)");
        NobodyBreathes x = new NobodyBreathes();
        for (int i = 0; i < 10; i++) {
            Due.is("singer " + i, x.singer(0, 102 + i, 0), i);
        }
        Due.is("an eleventh", x.singer(0, 102, 0), FULL);
        Due.is("ten", x.count(0), 10);
        Due.is("the last one", x.told(9, 0, 0, HOLD), 11);
        Edge.sentence(0, "a VOICE, HOLD (2 .. 40 STEPS), a NUMBER (0 .. 9), TAKES (1 .. 9 STEPS without singing for a breath).");
        NobodyBreathes y = new NobodyBreathes();
        y.singer(0, 102, 0);
        y.singer(0, 3940, 9);
        int[][] due = {{0, 2, 1, 0}, {3, 40, 9, 9}};
        for (int i = 0; i < 2; i++) {
            Due.is("voice", y.told(i, 0, 0, VOICE), due[i][0]);
            Due.is("hold", y.told(i, 0, 0, HOLD), due[i][1]);
            Due.is("takes", y.told(i, 0, 0, TAKES), due[i][2]);
            Due.is("number", y.taken(i, 0), due[i][3]);
        }
    }

    /** All rests there can be, and all numbers about them that are none. */
    private static void singerRests() {
        Edge.sentence(3, "A SINGER (rest: 1000 times VOICE, 100 times TAKES, and HOLD): his number.");
        Set<Integer> good = new HashSet<>();
        for (int voice = 0; voice <= 3; voice++) {
            for (int takes = 1; takes <= 9; takes++) {
                for (int hold = 2; hold <= 40; hold++) {
                    int rest = 1000 * voice + 100 * takes + hold;
                    good.add(rest);
                    NobodyBreathes x = new NobodyBreathes();
                    Due.is("rest " + rest, x.singer(0, rest, 0), 0);
                    Due.is("voice of " + rest, x.told(0, 0, 0, VOICE), voice);
                    Due.is("takes of " + rest, x.told(0, 0, 0, TAKES), takes);
                    Due.is("hold of " + rest, x.told(0, 0, 0, HOLD), hold);
                }
            }
        }
        NobodyBreathes x = new NobodyBreathes();
        for (int rest = -4200; rest <= 5200; rest++) {
            if (rest % 500 == 0) x = new NobodyBreathes();
            if (!good.contains(rest)) Due.is("rest " + rest, x.singer(0, rest, 0), BAD);
        }
    }

    private static void singerRefused(int kind, int rest, int number) {
        Edge.refused("singer(" + kind + "," + rest + "," + number + ")", BAD, x -> x.singer(kind, rest, number));
    }

    private static void singerBadThenFull() {
        Edge.sentence(3, "BAD; FULL.");
        for (int none : new int[] {-1, MIN, MAX}) {
            singerRefused(none, 102, 0);
            singerRefused(0, none, 0);
            singerRefused(0, 102, none);
        }
        singerRefused(6, 102, 0);
        singerRefused(0, 102, 10);
        for (int rest : new int[] {0, 2, 40, 100, 101, 141, 199, 1002, 1101, 3941, 4102, -102, -3940}) {
            singerRefused(0, rest, 0);
        }
        Edge.refused("an eleventh", FULL, Edge::fullChoir, x -> x.singer(5, 3940, 9));
        Edge.refused("a bad kind ahead of full", BAD, Edge::fullChoir, x -> x.singer(6, 102, 0));
        Edge.refused("a bad rest ahead of full", BAD, Edge::fullChoir, x -> x.singer(0, 141, 0));
        Edge.refused("a bad number ahead of full", BAD, Edge::fullChoir, x -> x.singer(0, 102, 10));
    }

    private static void voice() {
        Edge.sentence(4, "VOICE of a SINGER: which it was.");
        NobodyBreathes x = Edge.fullChoir();
        Due.is("of the first", x.voice(0, 3), 0);
        Due.is("of the first again", x.voice(0, 3), 3);
        Due.is("back to 0", x.voice(0, 0), 3);
        Due.is("of the last", x.voice(9, 3), 0);
        Due.is("the last has it", x.told(9, 0, 0, VOICE), 3);
        Due.is("another doesn't", x.told(8, 0, 0, VOICE), 0);
        Edge.sentence(4, "BAD.");
        int[][] none = {{-1, 0}, {3, 0}, {10, 0}, {MIN, 0}, {MAX, 0}, {0, -1}, {0, 4}, {0, MIN}, {0, MAX}, {3, 4}};
        for (int[] c : none) {
            Edge.refused("voice" + Arrays.toString(c), BAD, y -> y.voice(c[0], c[1]));
        }
        Edge.refused("voice(10,0) of ten", BAD, Edge::fullChoir, y -> y.voice(10, 0));
    }

    private static void told() {
        Edge.sentence(5, "Of a SINGER, having breathed so often (0 .. 48), in a STEP: 0 KIND, 1 VOICE, 2 CAN HOLD, 3 TAKES, 4 SAYS (1, 0), 5 HOLD.");
        NobodyBreathes x = Edge.piece();
        int[] due = {3, 1, 15 - 3 - 5, 3, 0, 15};
        for (int what = 0; what < due.length; what++) {
            Due.is("told(2,0,0," + what + ")", x.told(2, 0, 0, what), due[what]);
        }
        Due.is("48 times, in the last step of all", x.told(2, 48, 47, CAN_HOLD), 1);
        Due.is("48 times", x.told(2, 48, 0, TAKES), 4);
        Due.is("nothing of an odd number", x.told(2, 0, 47, SAYS), 0);
        Due.is("an even one", x.told(0, 48, 47, SAYS), 1);
        Due.is("by LOUD of the step", x.told(0, 0, 47, CAN_HOLD), 9);
        Due.is("by LOUD of the step", x.told(0, 0, 2, CAN_HOLD), 3);
        Edge.sentence(5, "BAD.");
        int[][] none = {{-1, 0, 0, 0}, {3, 0, 0, 0}, {10, 0, 0, 0}, {0, -1, 0, 0}, {0, 49, 0, 0}, {0, 0, -1, 0}, {0, 0, 48, 0},
            {0, 0, 0, -1}, {0, 0, 0, 6}, {MIN, 0, 0, 0}, {0, MIN, 0, 0}, {0, 0, MIN, 0}, {0, 0, 0, MIN}, {MAX, 0, 0, 0},
            {0, MAX, 0, 0}, {0, 0, MAX, 0}, {0, 0, 0, MAX}};
        for (int[] c : none) {
            for (int what = 0; what < 6; what++) {
                int asked = c[3] == 0 ? what : c[3];
                Edge.refused("told" + Arrays.toString(c) + " " + asked, BAD, y -> y.told(c[0], c[1], c[2], asked));
            }
        }
    }

    /** CAN HOLD of one of these, having breathed so often. */
    private static int canHold(int kind, int hold, int number, int loud, int often) {
        NobodyBreathes x = new NobodyBreathes();
        x.singer(kind, 100 + hold, number);
        x.set(LOUD, 0, loud);
        return x.told(0, often, 0, CAN_HOLD);
    }

    private static void canHold() {
        Edge.sentence(0, "CAN HOLD (STEPS on end, as loud as the STEP is, having breathed so often): SINGER: HOLD less LOUD;");
        Due.is("loud 0", canHold(0, 40, 9, 0, 48), 40);
        Due.is("loud 9", canHold(0, 40, 9, 9, 48), 31);
        Edge.sentence(0, "SOFT: half (cut) of LOUD more than a SINGER;");
        Due.is("half of 0", canHold(1, 20, 9, 0, 48), 20);
        Due.is("half of 1", canHold(1, 20, 9, 1, 48), 19);
        Due.is("half of 2", canHold(1, 20, 9, 2, 48), 19);
        Due.is("half of 9", canHold(1, 20, 9, 9, 48), 15);
        Edge.sentence(0, "TIRED: a SINGER's less how often;");
        Due.is("never", canHold(2, 40, 9, 3, 0), 37);
        Due.is("once", canHold(2, 40, 9, 3, 1), 36);
        Due.is("36 times", canHold(2, 40, 9, 3, 36), 1);
        Edge.sentence(0, "OLD: a TIRED one's less NUMBER;");
        Due.is("number 0", canHold(3, 40, 0, 3, 2), 35);
        Due.is("number 9", canHold(3, 40, 9, 3, 2), 26);
        Edge.sentence(0, "LOW: a SOFT one's and NUMBER;");
        Due.is("number 0", canHold(4, 20, 0, 9, 48), 15);
        Due.is("number 9", canHold(4, 20, 9, 9, 48), 24);
        Due.is("more than he holds", canHold(4, 40, 9, 0, 0), 49);
        Edge.sentence(0, "COLD: half (cut) of a SINGER's.");
        Due.is("of an even one", canHold(5, 20, 9, 4, 48), 8);
        Due.is("of an odd one", canHold(5, 20, 9, 3, 48), 8);
        Due.is("of 2", canHold(5, 5, 9, 3, 48), 1);
        Due.is("of 3", canHold(5, 6, 9, 3, 48), 1);
        Edge.sentence(0, "Quotients are cut toward 0.");
        Due.is("half of 7 more", canHold(1, 20, 0, 7, 0), 16);
        Due.is("half of 35", canHold(5, 40, 0, 5, 0), 17);
        Due.is("fewest is rounded up by its own words", new NobodyBreathes().fewest(2, 1, 1), 2);
    }

    private static void oneAtLeast() {
        Edge.sentence(0, "(1 at least.)");
        Due.is("1 of itself", canHold(0, 10, 0, 9, 0), 1);
        Due.is("2 stays", canHold(0, 11, 0, 9, 0), 2);
        Due.is("0 of a singer", canHold(0, 9, 0, 9, 0), 1);
        Due.is("-7 of a singer", canHold(0, 2, 0, 9, 0), 1);
        Due.is("0 of a soft one", canHold(1, 5, 0, 9, 0), 1);
        Due.is("-3 of a soft one", canHold(1, 2, 0, 9, 0), 1);
        Due.is("0 of a tired one", canHold(2, 10, 0, 3, 7), 1);
        Due.is("-41 of a tired one", canHold(2, 10, 0, 3, 48), 1);
        Due.is("0 of an old one", canHold(3, 10, 7, 3, 0), 1);
        Due.is("-64 of an old one", canHold(3, 2, 9, 9, 48), 1);
        Due.is("0 of a low one", canHold(4, 4, 1, 9, 0), 1);
        Due.is("0 of a cold one", canHold(5, 4, 0, 3, 0), 1);
        Due.is("-3 of a cold one", canHold(5, 2, 0, 9, 0), 1);
    }

    private static int takes(int kind, int takes, int often) {
        NobodyBreathes x = new NobodyBreathes();
        x.singer(kind, 100 * takes + 20, 1);
        return x.told(0, often, 0, TAKES);
    }

    private static void takes() {
        Edge.sentence(0, "TAKES so many STEPS: SINGER: TAKES; SOFT as a SINGER;");
        for (int kind = 0; kind < 2; kind++) {
            Due.is("one", takes(kind, 1, 48), 1);
            Due.is("nine", takes(kind, 9, 48), 9);
        }
        Edge.sentence(0, "TIRED: 1 more, having breathed 3 times or more; OLD as a TIRED; LOW as a SOFT;");
        for (int kind = 2; kind <= 3; kind++) {
            Due.is("never", takes(kind, 9, 0), 9);
            Due.is("twice", takes(kind, 9, 2), 9);
            Due.is("three times", takes(kind, 9, 3), 10);
            Due.is("four times", takes(kind, 1, 4), 2);
            Due.is("48 times", takes(kind, 1, 48), 2);
        }
        Due.is("a low one, three times", takes(4, 9, 3), 9);
        Edge.sentence(0, "COLD: twice a SINGER's.");
        Due.is("twice 1", takes(5, 1, 3), 2);
        Due.is("twice 9", takes(5, 9, 48), 18);
    }

    private static int says(int kind, int number, int loud) {
        NobodyBreathes x = new NobodyBreathes();
        x.singer(kind, 120, number);
        x.set(LOUD, 0, loud);
        return x.told(0, 0, 0, SAYS);
    }

    private static void says() {
        Edge.sentence(0, "SAYS an S: SINGER: if NUMBER is even; SOFT: never; TIRED as a SINGER;");
        for (int number = 0; number <= 9; number++) {
            int even = number % 2 == 0 ? 1 : 0;
            Due.is("a singer of " + number, says(0, number, 9), even);
            Due.is("a soft one of " + number, says(1, number, 0), 0);
            Due.is("a tired one of " + number, says(2, number, 9), even);
        }
        Edge.sentence(0, "OLD: if LOUD is below 5, and as a TIRED; LOW as a SOFT; COLD: always.");
        Due.is("loud 0", says(3, 0, 0), 1);
        Due.is("loud 4", says(3, 8, 4), 1);
        Due.is("loud 5", says(3, 8, 5), 0);
        Due.is("loud 9", says(3, 0, 9), 0);
        Due.is("loud 4, odd", says(3, 9, 4), 0);
        Due.is("a low one", says(4, 0, 0), 0);
        Due.is("a cold one, odd", says(5, 9, 9), 1);
        Due.is("a cold one, even", says(5, 0, 0), 1);
    }
}
