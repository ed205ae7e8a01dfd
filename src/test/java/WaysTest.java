/** Promises 9 to 13: sing, of, wrong, bad, breaths. */
public final class WaysTest {
    private static final int NONE = NobodyBreathes.NONE, BAD = NobodyBreathes.BAD;

    public static void main(String[] args) {
        byForce();
        byLoud();
        byFirstRule();
        mayNeedsEnough();
        must();
        beside();
        singing();
        tired();
        atTheBars();
        plans();
        of();
        tooLong();
        sideBySide();
        heard();
        sounds();
        ten();
        firstThing();
        bad();
        breaths();
        refusals();
        Due.end();
    }

    private static void sings(NobodyBreathes x, int way, int... bits) {
        for (int s = 0; s < bits.length; s++) {
            Due.is("sing(" + way + "," + s + ")", x.sing(way, s), bits[s]);
        }
    }

    private static NobodyBreathes choir(int... rests) {
        NobodyBreathes x = new NobodyBreathes();
        for (int rest : rests) {
            x.singer(0, rest, 0);
        }
        return x;
    }

    private static void byForce() {
        sings(choir(105), 6, 1, 1, 0, 1, 1, 0, 1, 1, 0);
        sings(choir(306, 104), 6, 3, 1, 3, 0, 2, 0, 3, 1, 3, 0);
        NobodyBreathes x = new NobodyBreathes();
        x.singer(5, 208, 0);
        sings(x, 6, 1, 1, 0, 0, 0, 0, 1, 1, 0, 0, 0, 0, 1);
        NobodyBreathes y = new NobodyBreathes();
        y.singer(2, 107, 0);
        // 4, 3, 2, 1 steps on end; the fourth breath takes one more
        sings(y, 6, 1, 1, 1, 1, 0, 1, 1, 1, 0, 1, 1, 0, 1, 0, 0, 1, 0, 0, 1);
    }

    private static void byLoud() {
        NobodyBreathes x = choir(108);
        x.set(0, 2, 6);
        sings(x, 6, 1, 1, 0, 1, 1, 1, 1, 1, 0);
        x.set(0, 2, 5);
        sings(x, 6, 1, 1, 1, 1, 1, 0, 1, 1, 1);
    }

    private static void byFirstRule() {
        NobodyBreathes x = choir(140, 140, 140);
        sings(x, 0, 7, 7, 7, 7, 7, 7, 7, 7, 7, 0, 7);
        x.set(3, 0, 3);
        Due.is("two others are less than three", x.sing(0, 9), 7);
        x.set(4, 0, 48);
        Due.is("but nobody holds for ever", x.sing(0, 36), 7);
        Due.is("but nobody holds for ever", x.sing(0, 37), 0);
    }

    private static void mayNeedsEnough() {
        NobodyBreathes x = choir(140, 104, 140, 140);
        Due.rule(x, "must 0 ; may step = 2 ; thin 0 ;");
        // one doesn't sing in step 1: those beside him may not, he himself and the last one may
        sings(x, 0, 15, 13, 5, 15);
        x.set(3, 0, 2);
        Due.is("two others of the last one sang", x.sing(0, 2), 5);
        x.set(3, 0, 3);
        Due.is("three others of the second sang", x.sing(0, 2), 13);
        x.set(3, 0, 4);
        Due.is("four others of nobody", x.sing(0, 2), 15);
        x.voice(1, 1);
        Due.is("least of his own voice", x.sing(0, 2), 13);
        x.set(3, 0, 2);
        Due.is("others of his own voice", x.sing(0, 2), 5);
        x.voice(2, 1);
        Due.is("others of his own voice", x.sing(0, 2), 13);
        NobodyBreathes y = choir(140, 140, 1140);
        Due.rule(y, "must 0 ; may step = 0 ; thin 0 ;");
        y.set(3, 0, 1);
        y.set(3, 1, 1);
        sings(y, 0, 4, 7);
    }

    private static void must() {
        NobodyBreathes x = choir(140, 140);
        x.set(3, 0, 9);
        Due.rule(x, "must step = 0 or step = 1 or held = 3 ; may 0 ; thin 0 ;");
        sings(x, 0, 0, 0, 3, 3, 3, 0, 3);
        NobodyBreathes y = choir(340, 104);
        Due.rule(y, "must -1 * (step = 2) ; may 0 ; thin 0 ;");
        sings(y, 0, 3, 1, 0, 2, 0, 3);
        Due.is("a rule is for way 0", y.sing(6, 2), 3);
        NobodyBreathes z = choir(140);
        Due.rule(z, "must loud = 7 ; may 0 ; thin 0 ;");
        z.set(0, 3, 7);
        sings(z, 0, 1, 1, 1, 0, 1);
    }

    private static void beside() {
        NobodyBreathes x = choir(140, 104, 140);
        Due.rule(x, "must beside ; may 0 ; thin 0 ;");
        sings(x, 0, 7, 5, 2, 5, 2);
        NobodyBreathes y = choir(104, 140, 104);
        Due.rule(y, "must beside = 2 ; may 0 ; thin 0 ;");
        sings(y, 0, 7, 2, 5, 2);
    }

    private static void singing() {
        NobodyBreathes x = choir(104, 140, 1140);
        Due.rule(x, "must singing = 0 ; may 0 ; thin 0 ;");
        sings(x, 0, 3, 2, 1);
    }

    private static void tired() {
        NobodyBreathes x = choir(140);
        Due.rule(x, "must held = 2 and tired < 2 ; may 0 ; thin 0 ;");
        sings(x, 0, 1, 1, 0, 1, 1, 0, 1, 1, 1, 1);
        Due.is("twice", x.breaths(0, 0), 2);
    }

    private static void atTheBars() {
        NobodyBreathes x = choir(240, 104);
        x.set(1, 2, 1);
        x.set(1, 3, 1);
        x.set(1, 4, 1);
        sings(x, 1, 3, 3, 0, 0, 0, 2, 3);
        Due.is("who is within a breath begins none", x.breaths(1, 0), 2);
        Due.is("the other begins three", x.breaths(1, 1), 3);
        x.set(1, 0, 1);
        Due.is("in step 0, too", x.sing(1, 0), 0);
    }

    private static void plans() {
        NobodyBreathes x = choir(240, 140);
        Due.plan(x, 3, 0, 3, 0, 4, 1, 4, 1, 0, 2, 5, -1, 5, 0, 48, 0, -1, 1, Integer.MAX_VALUE, 1);
        sings(x, 5, 1, 3, 3, 2, 0, 3, 3);
        Due.is("one of two", x.breaths(5, 0), 1);
        Due.is("others are left out", x.breaths(5, NONE), 3);
        NobodyBreathes y = choir(140);
        y.sheet(0, 0, 2);
        y.cell(0, 1, 256 + 5);
        Due.is("a byte has 8 bits", y.sing(2, 5), 0);
        y.cell(0, 0, 255);
        Due.is("and is below 0 from 128 on", y.sing(2, 5), 1);
        y.sheet(1, 1, 3);
        y.cell(1, 1, 7);
        Due.is("a last one alone", y.breaths(3, 0), 1);
        Due.is("a short", y.sing(3, 7), 0);
        y.sheet(2, 2, 0);
        Due.is("an empty plan", y.breaths(4, 0), 0);
    }

    private static void of() {
        NobodyBreathes x = choir(105, 1105, 140, 1140, 1140);
        Due.is("of 0 at first", x.of(6, 0, 0), 2);
        Due.is("of 1 at first", x.of(6, 0, 1), 3);
        Due.is("of 2 at first", x.of(6, 0, 2), 0);
        Due.is("of 0 then", x.of(6, 2, 0), 1);
        Due.is("of 1 then", x.of(6, 2, 1), 2);
    }

    private static void tooLong() {
        NobodyBreathes x = choir(109, 107);
        Due.plan(x, 0);
        Due.is("the second holds four", x.wrong(2), 4101);
        x.set(0, 2, 6);
        Due.is("by how loud it is in the step", x.wrong(2), 2101);
        x.set(0, 2, 8);
        Due.is("the least of both", x.wrong(2), 1000 * 2 + 100);
        NobodyBreathes y = new NobodyBreathes();
        y.singer(2, 107, 0);
        Due.plan(y, 0, 0, 1, 0, 3);
        Due.is("a tired one, having breathed twice", y.wrong(2), 6100);
    }

    private static void sideBySide() {
        NobodyBreathes x = choir(140, 1140, 140, 140);
        Due.plan(x, 0, 0, 3, 2, 3, 3, 5, 1, 5, 1, 7, 2, 7);
        Due.is("1 and 2", x.wrong(2), 7201);
        x.cell(0, 11, 9);
        Due.is("two that are not side by side", x.wrong(2), NONE);
        x.cell(0, 4, 1);
        x.cell(0, 5, 3);
        Due.is("the least of three", x.wrong(2), 3200);
    }

    private static void heard() {
        NobodyBreathes x = choir(340, 1140, 240);
        x.set(3, 0, 2);
        x.set(3, 1, 1);
        Due.plan(x, 0, 0, 5, 1, 9);
        Due.is("voice 0 is thin", x.wrong(2), 5300);
        Due.is("three times, and voice 1 once", x.bad(2), 4);
        x.set(5, 0, 1);
        Due.is("echo 1", x.wrong(2), 6300);
        Due.is("echo 1", x.bad(2), 2);
        x.set(5, 0, 2);
        Due.is("echo 2", x.wrong(2), 7300);
        x.set(5, 0, 3);
        Due.is("echo 3", x.wrong(2), NONE);
        Due.is("echo 3", x.bad(2), 0);
        x.set(3, 3, 1);
        Due.is("no steps ahead of step 0", x.wrong(2), 3303);
        Due.is("so not in the first three", x.bad(2), 21);
        x.set(3, 2, 1);
        Due.is("the least voice", x.wrong(2), 3302);
    }

    private static void sounds() {
        NobodyBreathes x = new NobodyBreathes();
        x.set(2, 2, 1);
        Due.is("none says it", x.wrong(6), 2400);
        x.singer(0, 140, 1);
        Due.is("an odd one neither", x.wrong(6), 2400);
        x.singer(5, 140, 1);
        Due.is("one says it", x.wrong(6), NONE);
        x.singer(2, 140, 2);
        x.singer(0, 140, 4);
        Due.is("three say it", x.wrong(6), NONE);
        x.singer(3, 140, 6);
        Due.is("four say it", x.wrong(6), 2400);
        x.set(0, 2, 5);
        Due.is("an old one, loud", x.wrong(6), NONE);
        x.set(0, 2, 3);
        Due.plan(x, 0, 4, 2);
        x.set(4, 0, 10);
        Due.is("one of the four breathes", x.wrong(2), NONE);
        x.set(4, 0, 2);
        Due.is("beyond last", x.wrong(6), NONE);
        NobodyBreathes y = new NobodyBreathes();
        y.singer(0, 140, 2);
        y.set(2, 0, 1);
        Due.is("the first alone says it", y.wrong(6), NONE);
        y.singer(0, 140, 2);
        y.singer(0, 140, 2);
        y.singer(0, 140, 2);
        Due.is("the first of four", y.wrong(6), 400);
    }

    private static void ten() {
        NobodyBreathes x = choir(140, 140, 140, 140, 140, 140, 140, 140, 1140, 1140);
        sings(x, 0, 1023, 1023, 1023, 1023, 1023, 1023, 1023, 1023, 1023, 0, 1023);
        sings(x, 6, 1023, 1023);
        Due.is("of 0", x.of(0, 0, 0), 8);
        Due.is("of 1", x.of(0, 0, 1), 2);
        Due.is("all begin one twice", x.breaths(0, NONE), 20);
        Due.is("side by side", x.wrong(0), 9200);
        Due.plan(x, 0, 9, 5, 8, 5);
        Due.is("the last two", x.wrong(2), 5208);
        sings(x, 2, 1023, 1023, 1023, 1023, 1023, 255, 1023);
        x.set(3, 1, 2);
        Due.is("bad", x.bad(2), 2);
    }

    private static void firstThing() {
        NobodyBreathes x = new NobodyBreathes();
        x.singer(0, 105, 1);
        x.singer(0, 140, 1);
        x.singer(0, 140, 1);
        x.set(2, 2, 1);
        Due.plan(x, 0, 1, 2, 2, 2);
        x.set(3, 0, 3);
        Due.is("too long first", x.wrong(2), 2100);
        x.set(0, 2, 0);
        Due.is("then side by side", x.wrong(2), 2201);
        Due.plan(x, 0, 1, 2);
        Due.is("then thin", x.wrong(2), 2300);
        x.set(3, 0, 0);
        Due.is("then the s", x.wrong(2), 2400);
        x.set(2, 2, 0);
        Due.is("then later steps", x.wrong(2), 3100);
    }

    private static void bad() {
        NobodyBreathes x = choir(140, 1140);
        x.set(3, 0, 3);
        x.set(3, 1, 1);
        x.set(4, 0, 10);
        Due.is("two too few", x.bad(6), 20);
        x.set(1, 4, 1);
        Due.is("and two in the bar", x.bad(1), 22);
        Due.rule(x, "must 0;may 0;thin 7;");
        Due.is("of any way", x.bad(1), 154);
        x.force(0);
        Due.is("by the rule", x.bad(1), 22);
    }

    private static void breaths() {
        NobodyBreathes x = choir(105, 106);
        Due.is("of one", x.breaths(6, 0), 8);
        Due.is("of another", x.breaths(6, 1), 6);
        Due.is("of all", x.breaths(6, NONE), 14);
        x.set(4, 0, 3);
        Due.is("begun in the last step", x.breaths(6, NONE), 1);
        x.set(4, 0, 2);
        Due.is("none yet", x.breaths(6, NONE), 0);
    }

    private static void refusals() {
        NobodyBreathes x = choir(140);
        int[][] wayStep = {{-1, 0}, {7, 0}, {0, -1}, {0, 24}, {0, 47}, {0, 48}, {2, 24}, {6, Integer.MIN_VALUE}};
        for (int[] c : wayStep) {
            Due.is("sing(" + c[0] + "," + c[1] + ")", x.sing(c[0], c[1]), BAD);
            Due.is("of(" + c[0] + "," + c[1] + ",0)", x.of(c[0], c[1], 0), BAD);
        }
        Due.is("of no voice", x.of(0, 0, -1), BAD);
        Due.is("of no voice", x.of(2, 0, 4), BAD);
        Due.is("wrong(-1)", x.wrong(-1), BAD);
        Due.is("wrong(7)", x.wrong(7), BAD);
        Due.is("bad(-1)", x.bad(-1), NobodyBreathes.NO);
        Due.is("bad(7)", x.bad(7), NobodyBreathes.NO);
        Due.is("breaths(-1,0)", x.breaths(-1, 0), BAD);
        Due.is("breaths(7,-1)", x.breaths(7, NONE), BAD);
        Due.is("breaths(6,1)", x.breaths(6, 1), BAD);
        Due.is("breaths(6,-2)", x.breaths(6, -2), BAD);
        Due.is("breaths(2,1)", x.breaths(2, 1), BAD);
        for (int way = 2; way <= 5; way++) {
            Due.is("sing, no sheet", x.sing(way, 0), -11);
            Due.is("of, no sheet", x.of(way, 0, 0), -11);
            Due.is("wrong, no sheet", x.wrong(way), -11);
            Due.is("bad, no sheet", x.bad(way), NobodyBreathes.NO);
            Due.is("breaths, no sheet", x.breaths(way, 0), -11);
            x.sheet(way - 2, 0, 0);
            Due.is("sing, an empty sheet", x.sing(way, 0), 1);
        }
        x.sheet(0, -1, 0);
        Due.is("missing again", x.sing(2, 0), -11);
    }
}
