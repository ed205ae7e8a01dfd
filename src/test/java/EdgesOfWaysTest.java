import java.util.Arrays;

/** Boundary cases of promises 9 to 13 and of what the terms say of WAYS: each block names its sentence first. */
public final class EdgesOfWaysTest {
    private static final int NONE = Edge.NONE, BAD = Edge.BAD, NOTHING = Edge.NOTHING, MIN = Edge.MIN, MAX = Edge.MAX;
    private static final long NO = Edge.NO;
    private static final int LOUD = 0, BAR = 1, S = 2, LEAST = 3, LAST = 4, ECHO = 5;
    private static final int RULE = 0, BARS = 1, PLAN = 2, FORCE = 6;

    public static void main(String[] args) {
        hearsHimself();
        hearsOthers();
        hearsBeside();
        hearsBreaths();
        must();
        may();
        thinBounds();
        firstRule();
        breathsLast();
        withinBreath();
        byRule();
        atBars();
        byPlan();
        leftOut();
        byForce();
        sing();
        of();
        thinAndHeard();
        wrongStep();
        tooLong();
        sideBySide();
        heardFirst();
        sounds();
        wrong();
        bad();
        breaths();
        missingSheets();
        Due.end();
    }

    /** All BY THE RULE that must is this. */
    private static NobodyBreathes choirThatMust(String e, int... rests) {
        NobodyBreathes x = Edge.choir(rests);
        Due.rule(x, "must " + e + ";may 0;thin 1;");
        return x;
    }

    private static NobodyBreathes choirThatMay(String e, int... rests) {
        NobodyBreathes x = Edge.choir(rests);
        Due.rule(x, "must 0;may " + e + ";thin 1;");
        return x;
    }

    private static void hearsHimself() {
        Edge.sentence(0, "Of a SINGER in a STEP: held: STEPS he has sung on end ahead of it; loud; step;");
        Edge.sings(choirThatMust("held=3", 140), RULE, 1, 1, 1, 0, 1, 1, 1, 0);
        Edge.sings(choirThatMust("held=0", 140), RULE, 0, 0, 0, 0);
        Edge.sings(choirThatMust("held=0 and step=0", 340), RULE, 0, 0, 0, 1, 1);
        Edge.sings(choirThatMust("step=0", 140), RULE, 0, 1, 1);
        NobodyBreathes x = choirThatMust("step=47", 140);
        for (int s = 0; s < 48; s++) {
            x.set(LOUD, s, 0);
        }
        x.set(LAST, 0, 48);
        Due.is("sung 40 on end", x.sing(RULE, 40), 0);
        Due.is("step 46", x.sing(RULE, 46), 1);
        Due.is("step 47", x.sing(RULE, 47), 0);
        NobodyBreathes y = choirThatMust("loud=9 or loud=0", 140);
        y.set(LOUD, 1, 9);
        y.set(LOUD, 3, 0);
        y.set(LOUD, 5, 8);
        Edge.sings(y, RULE, 1, 0, 1, 0, 1, 1);
    }

    private static void hearsOthers() {
        Edge.sentence(0, "singing: how many others of his VOICE sang in the STEP ahead (all others, in STEP 0);");
        Edge.sings(choirThatMust("singing=2 and step=0", 140, 140, 140, 1140), RULE, 8, 15);
        Edge.sings(choirThatMust("singing=0 and step=0", 140, 140, 140, 1140), RULE, 7, 15);
        Edge.sings(choirThatMust("singing=3 and step=0", 140, 140, 140, 1140), RULE, 15);
        // the third one doesn't sing in step 1
        Edge.sings(choirThatMust("singing=1 and step=2", 140, 140, 104, 1140), RULE, 15, 11, 12);
        Edge.sings(choirThatMust("singing=2 and step=2", 140, 140, 104, 1140), RULE, 15, 11, 11);
        Edge.sings(choirThatMust("singing=9 and step=0", 140, 140, 140, 140, 140, 140, 140, 140, 140, 140), RULE, 0, 1023);
        Edge.sings(choirThatMust("singing=0 and step=0", 140), RULE, 0, 1);
    }

    private static void hearsBeside() {
        Edge.sentence(0, "beside: how many of the two beside him didn't;");
        Edge.sings(choirThatMust("beside", 140, 140, 140), RULE, 7, 7, 7);
        Edge.sings(choirThatMust("beside=2 and step=2", 104, 140, 104), RULE, 7, 2, 5);
        Edge.sings(choirThatMust("beside=1 and step=2", 104, 140, 104), RULE, 7, 2, 7);
        Edge.sings(choirThatMust("beside=1 and step=2", 140, 1104, 140), RULE, 7, 5, 2);
        Edge.sings(choirThatMust("beside=0 and step=2", 140, 1104, 140, 140), RULE, 15, 13, 5);
        Edge.sings(choirThatMust("beside", 140), RULE, 1, 1, 1);
    }

    private static void hearsBreaths() {
        Edge.sentence(0, "tired: how often he has breathed.");
        NobodyBreathes x = choirThatMust("tired<2", 140);
        Edge.sings(x, RULE, 0, 0, 1, 1);
        Due.is("twice", x.breaths(RULE, 0), 2);
        Edge.sings(choirThatMust("tired=1", 105), RULE, 1, 1, 0, 0, 1, 1, 0);
        NobodyBreathes y = choirThatMust("1", 140);
        y.set(LAST, 0, 48);
        Due.is("48 times", y.breaths(RULE, 0), 48);
        NobodyBreathes z = choirThatMust("tired=step", 140);
        z.set(LAST, 0, 48);
        Due.is("as often as steps are behind him", z.breaths(RULE, 0), 48);
    }

    private static void must() {
        Edge.sentence(0, "must: whether he begins a breath in any case;");
        NobodyBreathes x = choirThatMust("step=2", 140, 104, 140);
        x.set(LEAST, 0, 9);
        // the second one begins another, too
        Edge.sings(x, RULE, 7, 5, 0);
        Edge.sings(choirThatMust("-1", 140), RULE, 0, 0);
        Edge.sings(choirThatMust("4096*4096*128", 140), RULE, 0, 0);
        Edge.sings(choirThatMust("4096*4096*256", 140), RULE, 1, 1);
    }

    private static void may() {
        Edge.sentence(0, "may: whether he does, if singing is no less than LEAST of his VOICE, and beside is 0.");
        NobodyBreathes x = choirThatMay("step=2", 140, 140, 140);
        x.set(LEAST, 0, 2);
        Edge.sings(x, RULE, 7, 7, 0);
        x.set(LEAST, 0, 3);
        Edge.sings(x, RULE, 7, 7, 7);
        x.set(LEAST, 0, 0);
        x.set(LEAST, 1, 9);
        Edge.sings(x, RULE, 7, 7, 0);
        x.voice(1, 1);
        Edge.sings(x, RULE, 7, 7, 2);
        // the third one didn't sing in step 1, so the second one may not
        Edge.sings(choirThatMay("step=2", 140, 140, 1104), RULE, 7, 3, 2);
        NobodyBreathes alone = choirThatMay("step=0", 140);
        Edge.sings(alone, RULE, 0, 1);
        alone.set(LEAST, 0, 1);
        Edge.sings(alone, RULE, 1, 1);
        NobodyBreathes two = choirThatMay("step=0", 140, 140);
        two.set(LEAST, 0, 1);
        Edge.sings(two, RULE, 0, 3);
        two.set(LEAST, 0, 2);
        Edge.sings(two, RULE, 3, 3);
        Edge.sings(choirThatMay("-1", 140), RULE, 0, 0);
    }

    private static void thinIs(String e, long due) {
        NobodyBreathes x = new NobodyBreathes();
        x.set(LAST, 0, 1);
        x.set(LEAST, 2, 1);
        Due.rule(x, "must 0;may 0;thin " + e + ";");
        for (int way : new int[] {RULE, BARS, FORCE}) {
            Due.is("thin " + e + " by " + way, x.bad(way), due);
        }
    }

    private static void thinBounds() {
        Edge.sentence(0, "thin: what a singer too few is worth (0 .. 99, else the bound; held, singing, beside, tired 0).");
        thinIs("0", 0);
        thinIs("-1", 0);
        thinIs("-9999", 0);
        thinIs("1", 1);
        thinIs("98", 98);
        thinIs("99", 99);
        thinIs("100", 99);
        thinIs("9999", 99);
        thinIs("4096*4096*128", 0);
        thinIs("4096*4096*128-1", 99);
        thinIs("7+held+singing+beside+tired", 7);
        thinIs("loud*10+step", 30);
        NobodyBreathes x = Edge.choir(140, 140, 1104);
        x.set(LEAST, 0, 3);
        x.set(LEAST, 1, 1);
        x.set(LAST, 0, 4);
        Due.rule(x, "must 0;may 0;thin 1+held+singing+beside+tired;");
        // one too few of voice 0 in each of four steps, and of voice 1 in steps 1 and 3
        Due.is("whoever sings", x.bad(FORCE), 6);
        Due.is("by the rule, too", x.bad(RULE), 6);
        x.sing(RULE, 2);
        Due.is("whatever was heard last", x.bad(FORCE), 6);
    }

    private static void firstRule() {
        Edge.sentence(0, "TEXT 0, at first THE RULE, is: must 0 ; may 8 < held ; thin 1 ;");
        NobodyBreathes x = Edge.choir(140);
        Edge.sings(x, RULE, 1, 1, 1, 1, 1, 1, 1, 1, 1, 0, 1, 1, 1, 1, 1, 1, 1, 1, 1, 0, 1);
        x.set(LEAST, 0, 1);
        Due.is("may asks for others", x.sing(RULE, 9), 1);
        Due.is("nobody is missing", x.bad(RULE), 0);
        x.set(LEAST, 0, 2);
        Due.is("thin 1", x.bad(RULE), 24);
        Due.is("text 0", x.force(0), 0);
    }

    private static void breathsLast() {
        Edge.sentence(0, "A WAY to sing tells of each SINGER in which STEPS he doesn't sing. He sings from STEP 0 on, but: as he begins a breath in a STEP he doesn't sing in so many STEPS, from this one on, as it TAKES (by how often he has breathed ahead).");
        NobodyBreathes one = Edge.choir(140);
        Due.plan(one, 0, 0, 1);
        Edge.sings(one, PLAN, 1, 0, 1);
        NobodyBreathes nine = Edge.choir(940);
        Due.plan(nine, 0, 0, 1);
        Edge.sings(nine, PLAN, 1, 0, 0, 0, 0, 0, 0, 0, 0, 0, 1);
        NobodyBreathes cold = new NobodyBreathes();
        cold.singer(5, 940, 0);
        Due.plan(cold, 0, 0, 1);
        Due.is("the eighteenth step", cold.sing(PLAN, 18), 0);
        Due.is("behind the eighteenth", cold.sing(PLAN, 19), 1);
        for (int kind = 2; kind <= 3; kind++) {
            NobodyBreathes tired = new NobodyBreathes();
            tired.singer(kind, 140, 0);
            Due.plan(tired, 0, 0, 0, 0, 2, 0, 4, 0, 6, 0, 9);
            Edge.sings(tired, PLAN, 0, 1, 0, 1, 0, 1, 0, 0, 1, 0, 0, 1);
        }
        NobodyBreathes cut = Edge.choir(940);
        Due.plan(cut, 0, 0, 23);
        Due.is("no steps behind the last", cut.sing(PLAN, 23), 0);
        Due.is("but it is a breath", cut.breaths(PLAN, 0), 1);
    }

    private static void withinBreath() {
        Edge.sentence(0, "WAYS, of those who are not within a breath:");
        NobodyBreathes x = Edge.choir(340);
        Due.plan(x, 0, 0, 1, 0, 2, 0, 3);
        Edge.sings(x, PLAN, 1, 0, 0, 0, 1);
        Due.is("one breath", x.breaths(PLAN, 0), 1);
        Due.plan(x, 0, 0, 1, 0, 4);
        Edge.sings(x, PLAN, 1, 0, 0, 0, 0, 0, 0, 1);
        Due.is("the next begins right behind it", x.breaths(PLAN, 0), 2);
        for (int s = 0; s < 7; s++) {
            x.set(BAR, s, 1);
        }
        Edge.sings(x, BARS, 0, 0, 0, 0, 0, 0, 0, 0, 0, 1);
        Due.is("at the bars 0, 3, 6", x.breaths(BARS, 0), 3);
        Due.rule(x, "must step<7;may 0;thin 0;");
        Edge.sings(x, RULE, 0, 0, 0, 0, 0, 0, 0, 0, 0, 1);
        Due.is("by the rule 0, 3, 6", x.breaths(RULE, 0), 3);
    }

    private static void byRule() {
        Edge.sentence(0, "0 BY THE RULE: one begins a breath in a STEP, if he has sung on end as long as he CAN HOLD (in that STEP), or if must, or may tells so.");
        Edge.sings(choirThatMust("0", 105), RULE, 1, 1, 0, 1, 1, 0);
        Edge.sings(choirThatMust("0", 102), RULE, 1, 0, 1, 0);
        NobodyBreathes x = choirThatMust("0", 112);
        x.set(LOUD, 5, 7);
        Due.is("can hold 5 there", x.sing(RULE, 5), 0);
        x.set(LOUD, 5, 6);
        Due.is("can hold 6 there", x.sing(RULE, 5), 1);
        x.set(LOUD, 4, 9);
        Due.is("can hold 3 ahead of it", x.sing(RULE, 4), 0);
        NobodyBreathes last = choirThatMust("0", 126);
        Due.is("can hold 23", last.sing(RULE, 23), 0);
        Due.is("once", last.breaths(RULE, 0), 1);
        Edge.sings(choirThatMay("held=1", 105), RULE, 1, 0, 1, 0);
    }

    private static void atBars() {
        Edge.sentence(0, "1 AT THE BARS: all begin one in each STEP that is a BAR.");
        NobodyBreathes x = Edge.choir(102, 140, 240);
        Due.is("no bar", x.breaths(BARS, NONE), 0);
        Due.is("nobody breathes by himself", x.sing(BARS, 23), 7);
        x.set(BAR, 0, 1);
        Edge.sings(x, BARS, 0, 3, 7);
        x.set(BAR, 0, 0);
        x.set(BAR, 23, 1);
        x.set(BAR, 24, 1);
        Due.is("the last step", x.sing(BARS, 22), 7);
        Due.is("the last step", x.sing(BARS, 23), 0);
        Due.is("bars beyond LAST are none", x.breaths(BARS, NONE), 3);
        NobodyBreathes y = Edge.choir(140);
        y.set(LAST, 0, 48);
        for (int s = 0; s < 48; s++) {
            y.set(BAR, s, 1);
        }
        Due.is("all are bars", y.breaths(BARS, 0), 48);
        Due.is("he never sings", y.sing(BARS, 47), 0);
    }

    private static void byPlan() {
        Edge.sentence(0, "2 .. 5 a PLAN by SHEET 0 .. 3: by twos a SINGER and a STEP in which he begins one");
        NobodyBreathes x = Edge.choir(140, 102);
        for (int sheet = 0; sheet < 4; sheet++) {
            Due.plan(x, sheet, 1, sheet, 0, sheet + 10);
        }
        for (int sheet = 0; sheet < 4; sheet++) {
            for (int s = 0; s < 14; s++) {
                Due.is("way " + (2 + sheet) + " step " + s, x.sing(2 + sheet, s), s == sheet ? 1 : s == sheet + 10 ? 2 : 3);
            }
        }
        x.sheet(0, 0, 0);
        Due.is("an empty row is a plan", x.breaths(2, NONE), 0);
        Due.is("nobody breathes by himself", x.sing(2, 23), 3);
        NobodyBreathes ten = new NobodyBreathes();
        for (int i = 0; i < 10; i++) {
            ten.singer(0, 140, 0);
        }
        ten.set(LAST, 0, 48);
        int[] forty = new int[40];
        for (int p = 0; p < 20; p++) {
            forty[2 * p] = p % 10;
            forty[2 * p + 1] = p < 19 ? p : 47;
        }
        Due.plan(ten, 3, forty);
        Due.is("twenty pairs", ten.breaths(5, NONE), 20);
        Due.is("the last pair", ten.sing(5, 47), 511);
        Due.is("the first pair", ten.sing(5, 0), 1022);
    }

    private static void leftOut() {
        Edge.sentence(0, "(a last number alone, and what is none such, are left out).");
        NobodyBreathes x = Edge.choir(140, 140);
        Due.plan(x, 0, 0);
        Due.is("one number", x.breaths(PLAN, NONE), 0);
        Due.plan(x, 0, 1, 5, 0);
        Due.is("three numbers", x.breaths(PLAN, NONE), 1);
        Due.is("three numbers", x.sing(PLAN, 0), 3);
        Due.plan(x, 0, -1, 5, 2, 5, 9, 5, 10, 5, MIN, 5, MAX, 5, 0, -1, 0, 48, 0, MIN, 0, MAX, 1, 6);
        Due.is("none such", x.breaths(PLAN, NONE), 1);
        Due.is("none such", x.sing(PLAN, 5), 3);
        Due.is("but what stands behind", x.sing(PLAN, 6), 1);
        Due.plan(x, 0, 0, 24, 1, 47);
        Due.is("steps beyond LAST", x.breaths(PLAN, NONE), 0);
        x.set(LAST, 0, 25);
        Due.is("one of them is in LAST then", x.breaths(PLAN, NONE), 1);
        x.set(LAST, 0, 48);
        Due.is("and the other", x.breaths(PLAN, NONE), 2);
        Due.plan(x, 1, 0, 64 + 5, 0, 32 + 48 + 5, 0, 256 + 5);
        Due.is("no step is counted round", x.breaths(3, NONE), 0);
        NobodyBreathes later = Edge.choir(140);
        Due.plan(later, 0, 1, 5);
        Due.is("no singer 1", later.breaths(PLAN, NONE), 0);
        later.singer(0, 140, 0);
        Due.is("then there is one", later.breaths(PLAN, NONE), 1);
    }

    private static void byForce() {
        Edge.sentence(0, "6 BY FORCE: one begins one, if he has sung on end as long as he CAN HOLD.");
        NobodyBreathes x = choirThatMust("1", 105);
        Edge.sings(x, FORCE, 1, 1, 0, 1, 1, 0);
        Edge.sings(Edge.choir(102), FORCE, 1, 0, 1, 0);
        x.set(BAR, 0, 1);
        Due.is("no bars", x.sing(FORCE, 0), 1);
        Due.is("26 less 3", Edge.choir(126).breaths(FORCE, 0), 1);
        Due.is("27 less 3", Edge.choir(127).breaths(FORCE, 0), 0);
    }

    private static void sing() {
        Edge.sentence(0, "IN a STEP: SING (bits), OF a VOICE how many.");
        Edge.sentence(9, "SING in a STEP (bits).");
        NobodyBreathes x = Edge.fullChoir();
        Due.is("all ten", x.sing(FORCE, 0), 1023);
        Due.is("nobody", new NobodyBreathes().sing(FORCE, 0), 0);
        NobodyBreathes y = Edge.fullChoir();
        Due.plan(y, 2, 9, 0, 0, 1);
        Due.is("all but the last", y.sing(4, 0), 511);
        Due.is("all but the first", y.sing(4, 1), 1022);
        Edge.sentence(9, "BAD; -11: the SHEET is missing.");
        int[][] none = {{-1, 0}, {7, 0}, {MIN, 0}, {MAX, 0}, {0, -1}, {0, 20}, {6, 24}, {1, 47}, {1, 48}, {0, MIN}, {0, MAX}, {4, -1}, {4, 20}, {8, 20}};
        for (int[] c : none) {
            Edge.refused("sing" + Arrays.toString(c), BAD, z -> z.sing(c[0], c[1]));
        }
        Edge.refused("sing(4,0)", NOTHING, z -> z.sing(4, 0));
        Edge.refused("sing(4,19)", NOTHING, z -> z.sing(4, 19));
    }

    private static void of() {
        Edge.sentence(10, "OF a VOICE how many sing in a STEP.");
        NobodyBreathes x = Edge.choir(1140, 1140, 1140, 1140, 1140, 1140, 1140, 1140, 1140, 1105);
        int[] due = {0, 10, 0, 0};
        for (int v = 0; v < 4; v++) {
            Due.is("of " + v, x.of(FORCE, 0, v), due[v]);
        }
        Due.is("nine of ten", x.of(FORCE, 2, 1), 9);
        x.voice(9, 3);
        Due.is("one", x.of(FORCE, 0, 3), 1);
        Due.is("who breathes", x.of(FORCE, 2, 3), 0);
        Due.is("nine", x.of(FORCE, 23, 1), 9);
        Edge.sentence(10, "BAD; -11.");
        int[][] none = {{-1, 0, 0}, {7, 0, 0}, {0, -1, 0}, {0, 20, 0}, {0, 47, 0}, {0, 0, -1}, {0, 0, 4}, {MIN, 0, 0}, {0, MIN, 0}, {0, 0, MIN},
            {MAX, 0, 0}, {0, MAX, 0}, {0, 0, MAX}, {4, 20, 0}, {4, 0, 4}};
        for (int[] c : none) {
            Edge.refused("of" + Arrays.toString(c), BAD, z -> z.of(c[0], c[1], c[2]));
        }
        Edge.refused("of(4,0,0)", NOTHING, z -> z.of(4, 0, 0));
        Edge.refused("of(4,19,3)", NOTHING, z -> z.of(4, 19, 3));
    }

    private static void thinAndHeard() {
        Edge.sentence(0, "THIN is a VOICE of which fewer sing than LEAST;");
        NobodyBreathes x = Edge.choir(140, 140);
        x.set(LAST, 0, 1);
        x.set(LEAST, 0, 2);
        Due.is("as many", x.bad(FORCE), 0);
        x.set(LEAST, 0, 3);
        Due.is("one fewer", x.bad(FORCE), 1);
        x.set(LEAST, 0, 9);
        Due.is("seven fewer", x.bad(FORCE), 7);
        x.set(LEAST, 0, 0);
        Due.is("none is asked", x.bad(FORCE), 0);
        x.set(LEAST, 3, 1);
        Due.is("of nobody", x.bad(FORCE), 1);
        Edge.sentence(0, "HEARD, if it is so in that STEP, and in the ECHO STEPS ahead, too (there are so many).");
        NobodyBreathes y = new NobodyBreathes();
        y.set(LEAST, 1, 1);
        for (int echo = 0; echo <= 5; echo++) {
            y.set(ECHO, 0, echo);
            y.set(LAST, 0, 24);
            Due.is("bad, echo " + echo, y.bad(FORCE), 24 - echo);
            Due.is("wrong, echo " + echo, y.wrong(FORCE), 1000 * echo + 301);
            y.set(LAST, 0, echo + 1);
            Due.is("the first step with so many ahead", y.bad(FORCE), 1);
            y.set(LAST, 0, Math.max(1, echo));
            Due.is("there are not so many", y.bad(FORCE), echo == 0 ? 1 : 0);
        }
        NobodyBreathes z = Edge.choir(340);
        z.set(LEAST, 0, 1);
        Due.plan(z, 0, 0, 4, 0, 8);
        int[] due = {6, 4, 2, 0, 0, 0};
        for (int echo = 0; echo <= 5; echo++) {
            z.set(ECHO, 0, echo);
            Due.is("thin in 4 5 6 and 8 9 10, echo " + echo, z.bad(PLAN), due[echo]);
        }
    }

    private static void wrongStep() {
        Edge.sentence(0, "WRONG of a WAY: 1000 times the first STEP in which something is so, and, the first of these:");
        NobodyBreathes x = new NobodyBreathes();
        x.set(S, 47, 1);
        x.set(LAST, 0, 47);
        Due.is("not yet", x.wrong(FORCE), NONE);
        x.set(LAST, 0, 48);
        Due.is("step 47", x.wrong(FORCE), 47400);
        x.set(S, 0, 1);
        Due.is("step 0", x.wrong(FORCE), 400);
        NobodyBreathes y = Edge.choir(104, 140, 140);
        y.set(LEAST, 2, 1);
        y.set(S, 1, 1);
        y.set(ECHO, 0, 1);
        y.set(LOUD, 0, 9);
        Due.plan(y, 0, 1, 1, 2, 1);
        // in step 1 the first one has sung 2 on end where he can hold 1, the others don't sing, and voice 2 is thin
        Due.is("100 first", y.wrong(PLAN), 1100);
        y.set(LOUD, 1, 2);
        Due.is("then 200", y.wrong(PLAN), 1201);
        Due.plan(y, 0, 2, 1);
        Due.is("then 300", y.wrong(PLAN), 1302);
        y.set(LEAST, 2, 0);
        Due.is("two say it: step 2", y.wrong(PLAN), 2100);
        y.singer(0, 140, 0);
        y.singer(0, 140, 0);
        Due.is("then 400: four say it", y.wrong(PLAN), 1400);
    }

    private static void tooLong() {
        Edge.sentence(0, "100 and the least SINGER who with that STEP has sung more on end than he CAN HOLD (in it);");
        NobodyBreathes x = Edge.choir(102);
        x.set(LAST, 0, 1);
        Due.is("one on end is no more than one", x.wrong(BARS), NONE);
        x.set(LAST, 0, 2);
        Due.is("two on end", x.wrong(BARS), 1100);
        Due.is("just as long as he can is right", Edge.choir(127).wrong(BARS), NONE);
        Due.is("one less", Edge.choir(126).wrong(BARS), 23100);
        NobodyBreathes low = new NobodyBreathes();
        low.set(LAST, 0, 48);
        for (int s = 0; s < 48; s++) {
            low.set(LOUD, s, 0);
        }
        low.singer(4, 140, 8);
        Due.is("can hold 48", low.wrong(BARS), NONE);
        low.singer(4, 140, 7);
        Due.is("can hold 47", low.wrong(BARS), 47101);
        NobodyBreathes y = Edge.choir(112);
        y.set(LOUD, 4, 8);
        Due.is("five on end, can hold 4 in it", y.wrong(BARS), 4100);
        y.set(LOUD, 4, 7);
        Due.is("can hold 5 in it", y.wrong(BARS), 9100);
        NobodyBreathes ten = Edge.choir(140, 140, 140, 140, 140, 140, 140, 140, 140, 108);
        Due.is("the last one", ten.wrong(BARS), 5109);
        NobodyBreathes both = Edge.choir(140, 108, 108);
        Due.is("the least of two", both.wrong(BARS), 5101);
        NobodyBreathes tired = new NobodyBreathes();
        tired.singer(2, 107, 0);
        Due.plan(tired, 0, 0, 3);
        // 3 of 4 on end, then having breathed once 4 where he can hold 3
        Due.is("having breathed once", tired.wrong(PLAN), 7100);
        for (int way : new int[] {RULE, FORCE}) {
            Due.is("who breathes as long as he can is never too long", Edge.choir(102).wrong(way), NONE);
        }
    }

    private static void sideBySide() {
        Edge.sentence(0, "200 and the least of two side by side who both don't;");
        NobodyBreathes x = Edge.choir(140, 140, 140, 140, 140, 140, 140, 140, 140, 140);
        Due.plan(x, 0, 9, 0, 8, 0);
        Due.is("the last two, in step 0", x.wrong(PLAN), 208);
        Due.plan(x, 0, 0, 0, 1, 0, 9, 0, 8, 0);
        Due.is("the first two", x.wrong(PLAN), 200);
        Due.plan(x, 0, 0, 0, 2, 0, 4, 0, 6, 0, 8, 0);
        Due.is("no two side by side", x.wrong(PLAN), NONE);
        Due.plan(x, 0, 0, 0, 9, 0);
        Due.is("the first and the last aren't", x.wrong(PLAN), NONE);
        Due.plan(x, 0, 4, 5, 5, 6);
        Due.is("in one step behind the other", x.wrong(PLAN), NONE);
        NobodyBreathes y = Edge.choir(240, 3140);
        Due.plan(y, 0, 0, 22, 1, 23);
        Due.is("within one breath, of another voice, in the last step", y.wrong(PLAN), 23200);
        Due.plan(y, 0, 0, 21, 1, 23);
        Due.is("behind it", y.wrong(PLAN), NONE);
        NobodyBreathes alone = Edge.choir(140);
        Due.plan(alone, 0, 0, 0);
        Due.is("one alone", alone.wrong(PLAN), NONE);
    }

    private static void heardFirst() {
        Edge.sentence(0, "300 and the least VOICE that is HEARD;");
        NobodyBreathes x = new NobodyBreathes();
        for (int v = 3; v >= 0; v--) {
            x.set(LEAST, v, 1);
            Due.is("voice " + v, x.wrong(FORCE), 300 + v);
        }
        x.set(ECHO, 0, 5);
        x.set(LAST, 0, 5);
        Due.is("none is heard", x.wrong(FORCE), NONE);
        x.set(LAST, 0, 6);
        Due.is("all are heard", x.wrong(FORCE), 5300);
    }

    private static void sounds() {
        Edge.sentence(0, "400, if it has an S, and none, or more than 3, of those who sing SAY it.");
        int[] due = {400, NONE, NONE, NONE, 400, 400};
        for (int sayers = 0; sayers < due.length; sayers++) {
            NobodyBreathes x = new NobodyBreathes();
            x.set(LAST, 0, 1);
            x.singer(1, 140, 0);
            x.singer(0, 140, 9);
            for (int i = 0; i < sayers; i++) {
                x.singer(i % 2 == 0 ? 5 : 0, 140, 4);
            }
            Due.is(sayers + " where there is none", x.wrong(FORCE), NONE);
            x.set(S, 0, 1);
            Due.is(sayers + " say it", x.wrong(FORCE), due[sayers]);
        }
        NobodyBreathes y = Edge.choir(140, 140, 140, 140);
        y.set(S, 2, 1);
        Due.plan(y, 0, 3, 2);
        Due.is("three of four sing", y.wrong(PLAN), NONE);
        Due.plan(y, 0, 3, 3);
        Due.is("four sing", y.wrong(PLAN), 2400);
        NobodyBreathes z = Edge.choir(140);
        z.set(S, 2, 1);
        Due.plan(z, 0, 0, 2);
        Due.is("the one who says it doesn't sing", z.wrong(PLAN), 2400);
        NobodyBreathes old = new NobodyBreathes();
        old.singer(3, 140, 0);
        old.set(S, 2, 1);
        old.set(LOUD, 2, 4);
        Due.is("loud 4", old.wrong(BARS), NONE);
        old.set(LOUD, 2, 5);
        Due.is("loud 5", old.wrong(BARS), 2400);
    }

    private static void wrong() {
        Edge.sentence(0, "NONE: nothing is so.");
        Edge.sentence(11, "WRONG. BAD; -11; NONE.");
        NobodyBreathes x = new NobodyBreathes();
        for (int way : new int[] {RULE, BARS, FORCE}) {
            Due.is("nobody, nothing is asked", x.wrong(way), NONE);
        }
        x.sheet(3, 2, 0);
        Due.is("an empty plan", x.wrong(5), NONE);
        for (int way : new int[] {-1, 7, MIN, MAX}) {
            Edge.refused("wrong(" + way + ")", BAD, y -> y.wrong(way));
        }
        Edge.refused("wrong(4)", NOTHING, y -> y.wrong(4));
    }

    private static void bad() {
        Edge.sentence(0, "BAD of all STEPS: thin times how many are too few, of VOICES that are HEARD, together.");
        NobodyBreathes x = new NobodyBreathes();
        x.set(LAST, 0, 48);
        for (int v = 0; v < 4; v++) {
            x.set(LEAST, v, 9);
        }
        Due.is("36 too few in 48 steps", x.bad(RULE), 36 * 48);
        Due.rule(x, "must 0;may 0;thin 99;");
        for (int way : new int[] {RULE, BARS, FORCE}) {
            Due.is("99 times 36 in 48 steps", x.bad(way), 171072);
        }
        x.set(LAST, 0, 1);
        Due.is("one step", x.bad(RULE), 99 * 36);
        x.set(ECHO, 0, 1);
        Due.is("it isn't heard", x.bad(RULE), 0);
        Edge.sentence(12, "BAD of all STEPS. NO: none such; the SHEET is missing.");
        for (int way : new int[] {-1, 7, MIN, MAX, 4}) {
            Edge.refused("bad(" + way + ")", NO, y -> y.bad(way));
        }
        Due.is("nobody, nothing is asked", new NobodyBreathes().bad(FORCE), 0);
        NobodyBreathes empty = new NobodyBreathes();
        empty.sheet(2, 0, 0);
        Due.is("an empty row isn't missing", empty.bad(4), 0);
    }

    private static void breaths() {
        Edge.sentence(0, "BREATHS of a SINGER; of all.");
        Edge.sentence(13, "BREATHS of a SINGER, of all (NONE).");
        NobodyBreathes x = new NobodyBreathes();
        Due.is("of nobody", x.breaths(FORCE, -1), 0);
        for (int i = 0; i < 10; i++) {
            x.singer(0, i == 9 ? 105 : 140, 0);
        }
        Due.is("of the first", x.breaths(FORCE, 0), 0);
        Due.is("of the last", x.breaths(FORCE, 9), 8);
        Due.is("of all", x.breaths(FORCE, -1), 8);
        x.set(LAST, 0, 3);
        Due.is("begun in the last step", x.breaths(FORCE, 9), 1);
        x.set(LAST, 0, 2);
        Due.is("not begun yet", x.breaths(FORCE, -1), 0);
        x.set(LAST, 0, 48);
        for (int s = 0; s < 48; s++) {
            x.set(BAR, s, 1);
        }
        Due.is("all in each of 48", x.breaths(BARS, -1), 480);
        Edge.sentence(13, "BAD; -11.");
        int[][] none = {{-1, 0}, {7, 0}, {MIN, 0}, {MAX, 0}, {0, -2}, {0, 3}, {0, 10}, {0, MIN}, {0, MAX}, {4, -2}, {4, 3}, {7, -1}};
        for (int[] c : none) {
            Edge.refused("breaths" + Arrays.toString(c), BAD, y -> y.breaths(c[0], c[1]));
        }
        Edge.refused("breaths(4,-1)", NOTHING, y -> y.breaths(4, -1));
        Edge.refused("breaths(4,2)", NOTHING, y -> y.breaths(4, 2));
        Edge.refused("breaths(6,10) of ten", BAD, Edge::fullChoir, y -> y.breaths(6, 10));
    }

    private static void missingSheets() {
        Edge.sentence(9, "-11: the SHEET is missing.");
        for (int way = 2; way <= 5; way++) {
            NobodyBreathes x = Edge.choir(140);
            Due.is("sing", x.sing(way, 0), NOTHING);
            Due.is("of", x.of(way, 0, 0), NOTHING);
            Due.is("wrong", x.wrong(way), NOTHING);
            Due.is("bad", x.bad(way), NO);
            Due.is("breaths", x.breaths(way, 0), NOTHING);
            x.sheet(way - 2, 1, 0);
            Due.is("an empty row isn't", x.sing(way, 0), 1);
            Due.is("an empty row isn't", x.of(way, 0, 0), 1);
            Due.is("an empty row isn't", x.wrong(way), NONE);
            Due.is("an empty row isn't", x.bad(way), 0);
            Due.is("an empty row isn't", x.breaths(way, 0), 0);
            x.sheet(way - 2, -1, 0);
            Due.is("missing again", x.sing(way, 0), NOTHING);
        }
        for (int way : new int[] {RULE, BARS, FORCE}) {
            Due.is("none is asked for by way " + way, Edge.choir(140).sing(way, 0), 1);
        }
    }
}
