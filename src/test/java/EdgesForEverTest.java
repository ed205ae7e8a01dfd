import java.util.Arrays;

/** Boundary cases of promises 14 to 21 and of what the terms say of these: each block names its sentence first. */
public final class EdgesForEverTest {
    private static final int NONE = Edge.NONE, BAD = Edge.BAD, STATE = Edge.STATE, NOTHING = Edge.NOTHING, MIN = Edge.MIN, MAX = Edge.MAX;
    private static final long NO = Edge.NO;
    private static final int LOUD = 0, BAR = 1, S = 2, LEAST = 3, LAST = 4, ECHO = 5;
    private static final int RULE = 0, BARS = 1, PLAN = 2, FORCE = 6;

    public static void main(String[] args) {
        fewest();
        round();
        roundAtTheEnd();
        roundWays();
        lent();
        lentRefuses();
        lost();
        lostRefuses();
        who();
        whoOfLikeOnes();
        whoNone();
        whoRefuses();
        imageKeeps();
        imageAndThoseWhoCame();
        image();
        back();
        count();
        Due.end();
    }

    private static void fewest() {
        NobodyBreathes x = new NobodyBreathes();
        Edge.sentence(0, "FEWEST for ever: m times (h and t) by h, rounded up: of those who hold h STEPS and take t, so that m always sing.");
        Due.is("no rest", x.fewest(10, 2, 5), 6);
        Due.is("a small rest", x.fewest(10, 1, 1), 2);
        Due.is("a great rest", x.fewest(10, 9, 1), 2);
        Due.is("a rest of one fortieth", x.fewest(40, 1, 1), 2);
        Due.is("a rest of 39 fortieths", x.fewest(40, 1, 39), 40);
        Due.is("40 of 41", x.fewest(40, 1, 40), 41);
        Edge.sentence(14, "FEWEST (h 1 .. 40, t 1 .. 18, m 0 .. 99).");
        Due.is("the most of all", x.fewest(1, 18, 99), 1881);
        Due.is("the least t of all", x.fewest(1, 1, 99), 198);
        Due.is("the greatest of each", x.fewest(40, 18, 99), 144);
        Due.is("none are asked", x.fewest(1, 18, 0), 0);
        Due.is("none are asked", x.fewest(40, 1, 0), 0);
        Due.is("one of 19", x.fewest(1, 18, 1), 19);
        Edge.sentence(14, "BAD.");
        int[][] none = {{0, 1, 1}, {41, 1, 1}, {-1, 1, 1}, {1, 0, 1}, {1, 19, 1}, {1, -1, 1}, {1, 1, -1}, {1, 1, 100}, {MIN, 1, 1},
            {1, MIN, 1}, {1, 1, MIN}, {MAX, 1, 1}, {1, MAX, 1}, {1, 1, MAX}, {0, 0, 0}};
        for (int[] c : none) {
            Edge.refused("fewest" + Arrays.toString(c), BAD, y -> y.fewest(c[0], c[1], c[2]));
        }
    }

    private static void roundIs(NobodyBreathes x, int way, int loud, int step, int earlier) {
        Due.is("round(" + way + "," + loud + ",0)", x.round(way, loud, 0), step);
        Due.is("round(" + way + "," + loud + ",1)", x.round(way, loud, 1), earlier);
    }

    private static void round() {
        Edge.sentence(0, "ROUND of a WAY 0, 6, were LOUD the same in all STEPS 0 .. 199: the first STEP behind which of each SINGER how many STEPS he has sung on end, and for how many he doesn't sing yet, is as it was behind an earlier one; that one.");
        NobodyBreathes nobody = new NobodyBreathes();
        roundIs(nobody, FORCE, 0, 1, 0);
        roundIs(nobody, RULE, 9, 1, 0);
        NobodyBreathes x = Edge.choir(102);
        roundIs(x, FORCE, 0, 3, 0);
        roundIs(x, FORCE, 1, 2, 0);
        roundIs(x, FORCE, 9, 2, 0);
        x.set(LAST, 0, 1);
        x.set(LOUD, 0, 9);
        x.set(BAR, 0, 1);
        roundIs(x, FORCE, 0, 3, 0);
        // for 8 .. 0 STEPS more he doesn't sing: these are not alike
        roundIs(Edge.choir(902), FORCE, 1, 10, 0);
        // how often he has breathed is not looked at
        NobodyBreathes tired = new NobodyBreathes();
        tired.singer(2, 106, 0);
        roundIs(tired, FORCE, 3, 4, 0);
        for (int slow = 0; slow < 10; slow++) {
            NobodyBreathes ten = new NobodyBreathes();
            for (int i = 0; i < 10; i++) {
                ten.singer(0, i == slow ? 204 : 102, 0);
            }
            // of ten each one counts: nine come again every 2 steps, one every 5
            roundIs(ten, FORCE, 1, 10, 0);
        }
    }

    private static void roundAtTheEnd() {
        Edge.sentence(15, "ROUND (loud 0 .. 9): the STEP (what 0), the earlier one (1).");
        // one comes again every 9 steps, the other every 22
        roundIs(Edge.choir(108, 121), FORCE, 0, 198, 0);
        // every 8 and every 25: the first STEP would be 200
        roundIs(Edge.choir(107, 124), FORCE, 0, NONE, NONE);
        NobodyBreathes x = Edge.choir(107, 124);
        Due.rule(x, "must 197<step;may 0;thin 0;");
        roundIs(x, RULE, 0, 199, 198);
        Due.rule(x, "must 198<step;may 0;thin 0;");
        roundIs(x, RULE, 0, NONE, NONE);
        roundIs(Edge.choir(940, 939, 138), FORCE, 0, NONE, NONE);
        NobodyBreathes y = Edge.choir(140);
        roundIs(y, FORCE, 0, 41, 0);
        roundIs(y, FORCE, 9, 32, 0);
        Due.rule(y, "must held=loud;may 0;thin 0;");
        roundIs(y, RULE, 0, 1, 0);
        roundIs(y, RULE, 9, 10, 0);
        Due.rule(y, "must step=1 or step=2;may 0;thin 0;");
        roundIs(y, RULE, 0, 2, 1);
    }

    private static void roundWays() {
        Edge.sentence(15, "BAD; NONE.");
        int[][] none = {{-1, 0, 0}, {1, 0, 0}, {2, 0, 0}, {4, 0, 0}, {5, 0, 0}, {7, 0, 0}, {0, -1, 0}, {0, 10, 0}, {6, 0, -1}, {6, 0, 2},
            {MIN, 0, 0}, {0, MIN, 0}, {0, 0, MIN}, {MAX, 0, 0}, {0, MAX, 0}, {0, 0, MAX}};
        for (int[] c : none) {
            Edge.refused("round" + Arrays.toString(c), BAD, x -> x.round(c[0], c[1], c[2]));
        }
        for (int what = 0; what <= 1; what++) {
            int asked = what;
            Edge.refused("none comes again", NONE, () -> Edge.choir(107, 124), x -> x.round(FORCE, 0, asked));
        }
    }

    private static void lent() {
        Edge.sentence(0, "LENT: BAD of all STEPS, were a SINGER of another VOICE, less what it is.");
        Edge.sentence(16, "LENT.");
        NobodyBreathes x = Edge.choir(140, 140, 3140);
        x.set(LEAST, 0, 2);
        Due.is("one too few then", x.lent(FORCE, 0, 1), 24);
        Due.is("none asks for him there", x.lent(FORCE, 2, 1), 0);
        x.set(LEAST, 3, 2);
        Due.is("one too few there, one here", x.lent(FORCE, 1, 3), 0);
        x.set(LEAST, 0, 1);
        Due.is("less", x.lent(FORCE, 1, 3), -24);
        Due.is("more", x.lent(FORCE, 2, 0), 24);
        Due.is("he is still of his own", x.told(2, 0, 0, 1), 3);
        x.set(LAST, 0, 1);
        Due.is("of one step", x.lent(RULE, 1, 3), -1);
        x.set(ECHO, 0, 1);
        Due.is("it isn't heard", x.lent(RULE, 1, 3), 0);
        NobodyBreathes most = Edge.choir(140, 140, 140, 140, 140, 140, 140, 140, 140, 1140);
        most.set(LEAST, 0, 9);
        most.set(LAST, 0, 48);
        Due.rule(most, "must 0;may 0;thin 99;");
        for (int s = 0; s < 48; s++) {
            most.set(LOUD, s, 0);
        }
        Due.is("99 in each of 48", most.lent(BARS, 8, 3), 99 * 48);
        Due.is("the last singer", most.lent(BARS, 9, 0), 0);
        NobodyBreathes hears = Edge.choir(140, 1140);
        Due.rule(hears, "must 0;may singing=0;thin 1;");
        hears.set(LEAST, 0, 1);
        // two in voice 0 hear each other, so neither may; one alone has none to hear, and LEAST asks for one
        Due.is("his text hears others then", hears.lent(RULE, 1, 0), 0);
        Due.rule(hears, "must singing=1;may 0;thin 1;");
        Due.is("both begin a breath in each step but those behind a silent one", hears.lent(RULE, 1, 0), 12);
    }

    private static void lentRefuses() {
        Edge.sentence(16, "NO: none such.");
        int[][] none = {{-1, 0, 0}, {7, 0, 0}, {6, -1, 0}, {6, 3, 0}, {6, 10, 0}, {6, 0, -1}, {6, 0, 4}, {4, 0, 1}, {MIN, 0, 0},
            {6, MIN, 0}, {6, 0, MIN}, {MAX, 0, 0}, {6, MAX, 0}, {6, 0, MAX}};
        for (int[] c : none) {
            Edge.refused("lent" + Arrays.toString(c), NO, x -> x.lent(c[0], c[1], c[2]));
        }
        Edge.refused("lent(6,10,0) of ten", NO, Edge::fullChoir, x -> x.lent(6, 10, 0));
        Edge.refused("lent(6,0,0) of nobody", NO, Edge::fullTexts, x -> x.lent(6, 0, 0));
    }

    private static void lost() {
        Edge.sentence(0, "LOST: likewise, did a SINGER not sing from a STEP on.");
        Edge.sentence(17, "LOST.");
        NobodyBreathes x = Edge.choir(140, 140);
        x.set(LEAST, 0, 2);
        Due.is("from the first on", x.lost(FORCE, 0, 0), 24);
        Due.is("from the last on", x.lost(FORCE, 0, 23), 1);
        Due.is("from beyond LAST on", x.lost(FORCE, 0, 24), 0);
        Due.is("from 47 on", x.lost(FORCE, 1, 47), 0);
        Due.is("he isn't lost", x.bad(FORCE), 0);
        x.set(LEAST, 0, 1);
        Due.is("nobody asks for him", x.lost(FORCE, 1, 0), 0);
        x.set(LAST, 0, 48);
        x.set(LEAST, 0, 2);
        Due.is("from 47 on", x.lost(BARS, 1, 47), 1);
        x.set(ECHO, 0, 5);
        Due.is("from 43 on, echo 5", x.lost(BARS, 1, 43), 0);
        Due.is("from 42 on, echo 5", x.lost(BARS, 1, 42), 1);
        NobodyBreathes y = Edge.choir(140, 340);
        y.set(LEAST, 0, 2);
        Due.plan(y, 0, 1, 20);
        Due.is("three of his steps are bad anyhow", y.lost(PLAN, 1, 20), 1);
        Due.is("within his breath", y.lost(PLAN, 1, 22), 1);
        Due.is("behind his breath", y.lost(PLAN, 1, 23), 1);
        NobodyBreathes z = Edge.choir(140, 1140);
        z.set(LEAST, 1, 1);
        z.set(LAST, 0, 4);
        Due.rule(z, "must beside;may 0;thin 1;");
        Due.is("the other hears it in steps 2 and 3", z.lost(RULE, 0, 1), 2);
        Due.is("not in the step itself", z.lost(RULE, 0, 3), 0);
    }

    private static void lostRefuses() {
        Edge.sentence(17, "NO: none such.");
        int[][] none = {{-1, 0, 0}, {7, 0, 0}, {6, -1, 0}, {6, 3, 0}, {6, 10, 0}, {6, 0, -1}, {6, 0, 48}, {4, 0, 1}, {MIN, 0, 0},
            {6, MIN, 0}, {6, 0, MIN}, {MAX, 0, 0}, {6, MAX, 0}, {6, 0, MAX}};
        for (int[] c : none) {
            Edge.refused("lost" + Arrays.toString(c), NO, x -> x.lost(c[0], c[1], c[2]));
        }
        Edge.refused("lost(6,10,0) of ten", NO, Edge::fullChoir, x -> x.lost(6, 10, 0));
        Edge.refused("lost(6,0,0) of nobody", NO, Edge::fullTexts, x -> x.lost(6, 0, 0));
    }

    /** Nobody breathes but by a PLAN, and a STEP is worth its number. */
    private static NobodyBreathes byStep(int... rests) {
        NobodyBreathes x = Edge.choir(rests);
        x.set(LEAST, 0, 1);
        Due.rule(x, "must 0;may 0;thin step;");
        return x;
    }

    private static void who() {
        Edge.sentence(0, "WHO: of a PLAN the SINGER and the STEP with whom as a pair more BAD of all STEPS would be least;");
        Edge.sentence(18, "WHO: 100 times the SINGER, and the STEP.");
        NobodyBreathes x = byStep(940);
        Due.plan(x, 0, 0, 8);
        Due.is("8 .. 16", x.bad(PLAN), 108);
        Due.is("the first one in step 0", x.who(0), 0);
        Due.plan(x, 3, 0, 9);
        Due.is("from 1 on", x.who(3), 1);
        NobodyBreathes ten = byStep(1140, 1140, 1140, 1140, 1140, 1140, 1140, 1140, 1140, 240);
        ten.set(LAST, 0, 48);
        Due.plan(ten, 1, 9, 46);
        Due.is("46 and 47", ten.bad(3), 93);
        Due.is("the last one, 45 and 46", ten.who(1), 945);
        Due.plan(ten, 1, 9, 47);
        Due.is("47 alone can't be less", ten.who(1), NONE);
        NobodyBreathes full = byStep(540);
        int[] forty = new int[40];
        for (int p = 0; p < 20; p++) {
            forty[2 * p + 1] = 10;
        }
        Due.plan(full, 2, forty);
        Due.is("a row of 40 has room for a pair more", full.who(2), 6);
        Due.plan(full, 2, 0, 10, 0);
        Due.is("a last number alone is no half of that pair", full.who(2), 6);
        Due.plan(full, 2, 0, 10, 7, 7, 0, 48);
        Due.is("none such are no hindrance", full.who(2), 6);
        Due.is("the row is as it was", full.bad(4), 10 + 11 + 12 + 13 + 14);
    }

    private static void whoOfLikeOnes() {
        Edge.sentence(0, "of like ones the least STEP, then SINGER;");
        NobodyBreathes x = Edge.choir(240, 1240, 2340);
        for (int v = 0; v < 3; v++) {
            x.set(LEAST, v, 1);
        }
        Due.rule(x, "must 0;may 0;thin step=10 or step=11;");
        Due.plan(x, 0, 1, 10, 0, 10);
        Due.is("the least singer of step 9", x.who(0), 9);
        Due.plan(x, 0, 1, 10, 0, 10, 2, 9);
        // the third one in 7 saves both, in 8 one
        Due.is("the best one ahead of the least", x.who(0), 207);
        Due.plan(x, 0, 2, 10, 0, 10);
        Due.is("the least step ahead of the least singer", x.who(0), 208);
        NobodyBreathes y = Edge.choir(540);
        y.set(LEAST, 0, 1);
        Due.rule(y, "must 0;may 0;thin step=12;");
        Due.plan(y, 0, 0, 10);
        // in 6 and 7 he would sing in 12
        Due.is("the least of two steps", y.who(0), 6);
    }

    private static void whoNone() {
        Edge.sentence(0, "NONE: by none it is less.");
        NobodyBreathes x = byStep(940);
        Due.plan(x, 0, 0, 0);
        Due.is("the breath is in step 0", x.who(0), NONE);
        x.sheet(0, 0, 0);
        Due.is("an empty row", x.who(0), NONE);
        Due.plan(x, 0, 0);
        Due.is("one number", x.who(0), NONE);
        Due.rule(x, "must 0;may 0;thin 5;");
        Due.plan(x, 0, 0, 10);
        Due.is("nine steps are nine steps", x.who(0), NONE);
        Due.rule(x, "must 0;may 0;thin step;");
        x.set(LEAST, 0, 0);
        Due.is("nothing is bad", x.who(0), NONE);
        NobodyBreathes nobody = new NobodyBreathes();
        nobody.set(LEAST, 0, 9);
        Due.plan(nobody, 0, 0, 10);
        Due.is("nobody is there", nobody.who(0), NONE);
    }

    private static void whoRefuses() {
        Edge.sentence(18, "BAD: sheet; -11; NONE.");
        for (int sheet : new int[] {-1, 4, 6, MIN, MAX}) {
            Edge.refused("who(" + sheet + ")", BAD, x -> x.who(sheet));
        }
        Edge.refused("who(2)", NOTHING, x -> x.who(2));
        for (int sheet = 0; sheet < 4; sheet++) {
            int asked = sheet;
            Edge.refused("who(" + sheet + ") at first", NOTHING, NobodyBreathes::new, x -> x.who(asked));
        }
        Edge.refused("who(1)", NONE, x -> x.who(1));
    }

    private static void imageKeeps() {
        Edge.sentence(0, "AN IMAGE keeps LAST, LOUD, BARS, S, LEAST, ECHO, VOICES of all, THE RULE");
        Edge.sentence(20, "All that it keeps is as in THE IMAGE:");
        NobodyBreathes x = Edge.choir(140, 140, 140, 140, 140, 140, 140, 140, 140, 140);
        Due.text(x, "must 0;may 0;thin 0;");
        int[] at = {0, 23, 47};
        for (int s : at) {
            x.set(LOUD, s, 9);
            x.set(BAR, s, 1);
            x.set(S, s, 1);
        }
        x.set(LEAST, 0, 9);
        x.set(LEAST, 3, 8);
        x.set(LAST, 0, 1);
        x.set(ECHO, 0, 5);
        x.voice(0, 3);
        x.voice(9, 2);
        x.force(1);
        Due.is("ten", x.image(), 10);
        for (int time = 0; time < 2; time++) {
            for (int s : at) {
                x.set(LOUD, s, 0);
                x.set(BAR, s, 0);
                x.set(S, s, 0);
            }
            x.set(LOUD, 46, 1);
            x.set(LEAST, 0, 0);
            x.set(LEAST, 3, 0);
            x.set(LAST, 0, 48);
            x.set(ECHO, 0, 0);
            x.voice(0, 1);
            x.voice(9, 1);
            x.force(0);
            Due.is("back", x.back(), 10);
            for (int s : at) {
                Due.is("loud of " + s, x.set(LOUD, s, 9), 9);
                Due.is("bar of " + s, x.set(BAR, s, 1), 1);
                Due.is("s of " + s, x.set(S, s, 1), 1);
            }
            Due.is("another's loud", x.set(LOUD, 46, 3), 3);
            Due.is("least", x.set(LEAST, 0, 9), 9);
            Due.is("least", x.set(LEAST, 3, 8), 8);
            Due.is("last", x.set(LAST, 0, 1), 1);
            Due.is("echo", x.set(ECHO, 0, 5), 5);
            Due.is("voice of the first", x.voice(0, 3), 3);
            Due.is("voice of the last", x.voice(9, 2), 2);
            Due.is("the rule", x.force(1), 1);
        }
    }

    private static void imageAndThoseWhoCame() {
        Edge.sentence(0, "(SINGERS that came since stay as they are).");
        NobodyBreathes x = new NobodyBreathes();
        x.image();
        x.singer(4, 3940, 7);
        x.back();
        Due.is("they stay", x.count(0), 1);
        Due.is("of their voice", x.told(0, 0, 0, 1), 3);
        x.image();
        x.voice(0, 1);
        for (int i = 1; i < 10; i++) {
            x.singer(0, 2140, 0);
        }
        x.voice(9, 3);
        x.back();
        Due.is("ten stay", x.count(0), 10);
        Due.is("who was there is of his voice", x.told(0, 0, 0, 1), 3);
        Due.is("who came is of his", x.told(1, 0, 0, 1), 2);
        Due.is("who came is of his new one", x.told(9, 0, 0, 1), 3);
        Due.is("his kind", x.taken(0, 4), 7);
        // what it doesn't keep
        NobodyBreathes y = new NobodyBreathes();
        y.image();
        Due.text(y, "must 0;may 0;thin 0;");
        Due.text(y, "must 0;may 0;thin 0;");
        y.force(2);
        y.feed(3, 0);
        y.sheet(0, 0, 40);
        y.back();
        Due.is("texts stay", y.count(4), 3);
        Due.is("the tape stays", y.count(5), 3);
        Due.is("a row stays", y.cell(0, 39, 0), 1);
        Due.is("the rule is that of the image", y.count(6), 0);
    }

    private static void image() {
        Edge.sentence(19, "AN IMAGE is kept: how many SINGERS.");
        NobodyBreathes x = new NobodyBreathes();
        Due.is("nobody", x.image(), 0);
        x.singer(0, 140, 0);
        Due.is("one", x.image(), 1);
        Due.is("one again", x.image(), 1);
        Due.is("ten", Edge.fullChoir().image(), 10);
        x.set(LAST, 0, 30);
        x.image();
        x.set(LAST, 0, 40);
        x.image();
        x.set(LAST, 0, 48);
        x.back();
        Due.is("the newest one", x.count(1), 40);
    }

    private static void back() {
        Edge.sentence(20, "how many SINGERS. STATE: there is none.");
        Edge.refused("no image", STATE, NobodyBreathes::new, x -> x.back());
        Edge.refused("no image", STATE, () -> Edge.choir(140, 140), x -> x.back());
        NobodyBreathes x = new NobodyBreathes();
        x.image();
        Due.is("an image of nobody is one", x.back(), 0);
        Due.is("ten", Edge.fullChoir().count(0), 10);
        NobodyBreathes ten = Edge.fullChoir();
        ten.image();
        Due.is("ten", ten.back(), 10);
        Due.is("an image stays behind back()", ten.back(), 10);
    }

    private static void count() {
        Edge.sentence(21, "How many: 0 SINGERS, 1 LAST, 2 BARS of these STEPS, 3 S of these, 4 TEXTS, 5 bytes of THE TAPE, 6 THE RULE, 7 all LEAST.");
        NobodyBreathes x = Edge.fullTexts();
        int[] least = {0, 24, 0, 0, 6, 0, 0, 0};
        for (int what = 0; what < 8; what++) {
            Due.is("count(" + what + ")", x.count(what), least[what]);
        }
        for (int i = 0; i < 10; i++) {
            x.singer(0, 140, 0);
        }
        for (int s = 0; s < 48; s++) {
            x.set(BAR, s, 1);
            if (s != 5) x.set(S, s, 1);
        }
        for (int v = 0; v < 4; v++) {
            x.set(LEAST, v, 9);
        }
        for (int i = 0; i < 20; i++) {
            x.feed(8, 0);
        }
        x.force(5);
        int[] some = {10, 24, 24, 23, 6, 160, 5, 36};
        for (int what = 0; what < 8; what++) {
            Due.is("count(" + what + ")", x.count(what), some[what]);
        }
        x.set(LAST, 0, 48);
        Due.is("bars of 48", x.count(2), 48);
        Due.is("s of 48", x.count(3), 47);
        x.set(LAST, 0, 1);
        Due.is("bars of one", x.count(2), 1);
        Due.is("s of one", x.count(3), 1);
        x.set(BAR, 0, 0);
        Due.is("no bar of one", x.count(2), 0);
        Edge.sentence(21, "BAD.");
        for (int what : new int[] {-1, 8, MIN, MAX}) {
            Edge.refused("count(" + what + ")", BAD, y -> y.count(what));
        }
    }
}
