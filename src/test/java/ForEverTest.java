/** Promises 14 to 21: fewest, round, lent, lost, who, image, back, count. */
public final class ForEverTest {
    private static final int NONE = NobodyBreathes.NONE, BAD = NobodyBreathes.BAD;
    private static final long NO = NobodyBreathes.NO;

    public static void main(String[] args) {
        fewest();
        round();
        roundByRule();
        lent();
        lost();
        lostIsHeard();
        who();
        whoAtEdges();
        whoOfLikeOnes();
        imageAndBack();
        imageOfVoices();
        count();
        Due.end();
    }

    private static void fewest() {
        NobodyBreathes x = new NobodyBreathes();
        Due.is("fewest(10,2,5)", x.fewest(10, 2, 5), 6);
        Due.is("fewest(10,2,6)", x.fewest(10, 2, 6), 8);
        Due.is("fewest(1,1,1)", x.fewest(1, 1, 1), 2);
        Due.is("fewest(40,18,99)", x.fewest(40, 18, 99), 144);
        Due.is("fewest(40,18,0)", x.fewest(40, 18, 0), 0);
        int[][] calls = {{0, 1, 1}, {41, 1, 1}, {1, 0, 1}, {1, 19, 1}, {1, 1, -1}, {1, 1, 100}, {-1, 1, 1}};
        for (int[] c : calls) {
            Due.is("fewest(" + c[0] + "," + c[1] + "," + c[2] + ")", x.fewest(c[0], c[1], c[2]), BAD);
        }
    }

    private static void round(NobodyBreathes x, int way, int loud, int step, int earlier) {
        Due.is("round(" + way + "," + loud + ",0)", x.round(way, loud, 0), step);
        Due.is("round(" + way + "," + loud + ",1)", x.round(way, loud, 1), earlier);
    }

    private static void round() {
        NobodyBreathes x = new NobodyBreathes();
        round(x, 6, 0, 1, 0);
        x.singer(0, 206, 0);
        // 3 on end, 2 silent
        round(x, 6, 3, 5, 0);
        round(x, 6, 0, 8, 0);
        x.singer(0, 105, 0);
        // 2 on end, 1 silent, beside a round of 5
        round(x, 6, 3, 15, 0);
        x.set(0, 5, 9);
        x.set(4, 0, 1);
        round(x, 6, 3, 15, 0);
        NobodyBreathes y = new NobodyBreathes();
        y.singer(2, 106, 0);
        // how often he has breathed is not looked at
        round(y, 6, 3, 4, 0);
        NobodyBreathes late = new NobodyBreathes();
        late.singer(2, 109, 0);
        late.singer(0, 109, 0);
        // sing 6, 5, 4, .. on end against 6 on end: alike behind 6, as it was behind 0
        round(late, 6, 3, 7, 0);
        late.singer(0, 113, 0);
        Due.is("as it was behind an earlier one than the last", late.round(6, 3, 0) > 7 ? 1 : 0, 1);
        NobodyBreathes z = new NobodyBreathes();
        z.singer(0, 940, 0);
        z.singer(0, 939, 0);
        z.singer(0, 138, 0);
        round(z, 6, 0, NONE, NONE);
        NobodyBreathes last = new NobodyBreathes();
        last.singer(0, 333, 3);
        last.singer(3, 739, 5);
        round(last, 6, 9, 199, 172);
        NobodyBreathes beyond = new NobodyBreathes();
        beyond.singer(0, 107, 0);
        beyond.singer(0, 124, 0);
        // every 8 and every 25 steps: 200 is no step of these
        round(beyond, 6, 0, NONE, NONE);
        for (int slow = 0; slow < 10; slow++) {
            NobodyBreathes ten = new NobodyBreathes();
            for (int i = 0; i < 10; i++) {
                ten.singer(0, i == slow ? 204 : 102, 0);
            }
            // 1 on end and 1 silent; 3 on end and 2 silent
            round(ten, 6, 1, 10, 0);
        }
        int[][] calls = {{-1, 0, 0}, {1, 0, 0}, {2, 0, 0}, {5, 0, 0}, {7, 0, 0}, {0, -1, 0}, {0, 10, 0}, {6, 0, -1}, {6, 0, 2}};
        for (int[] c : calls) {
            Due.is("round(" + c[0] + "," + c[1] + "," + c[2] + ")", x.round(c[0], c[1], c[2]), BAD);
        }
    }

    private static void roundByRule() {
        NobodyBreathes x = new NobodyBreathes();
        x.singer(0, 140, 0);
        round(x, 0, 3, 10, 0);
        Due.rule(x, "must held = 1 and 150 < step or held = 5 * loud ; may 0 ; thin 0 ;");
        round(x, 0, 2, 11, 0);
        Due.rule(x, "must step = 2 ; may 0 ; thin 0 ;");
        round(x, 0, 3, 3, 0);
        Due.rule(x, "must step = 0 ; may 0 ; thin 0 ;");
        // 0 behind step 0, then 37 on end, and 0 again behind step 38
        round(x, 0, 3, 38, 0);
        NobodyBreathes y = new NobodyBreathes();
        y.singer(0, 340, 0);
        Due.rule(y, "must step = 0 or held = 2 ; may 0 ; thin 0 ;");
        // behind 0, 1, 2 he doesn't sing for 2, 1, 0 steps yet
        round(y, 0, 3, 5, 0);
        NobodyBreathes z = new NobodyBreathes();
        z.singer(0, 140, 0);
        z.singer(0, 104, 0);
        z.singer(0, 140, 0);
        Due.rule(z, "must beside ; may 0 ; thin 0 ;");
        // on end 1 1 1, 2 0 2, 0 1 0, 1 0 1, 0 1 0
        round(z, 0, 3, 4, 2);
    }

    private static void lent() {
        NobodyBreathes x = new NobodyBreathes();
        x.singer(0, 140, 0);
        x.singer(0, 140, 0);
        x.set(3, 1, 1);
        x.set(4, 0, 10);
        Due.is("lent to the thin one", x.lent(6, 0, 1), -10);
        Due.is("he is not", x.told(0, 0, 0, 1), 0);
        Due.is("bad is as it was", x.bad(6), 10);
        Due.is("to his own", x.lent(6, 0, 0), 0);
        x.set(3, 0, 2);
        Due.is("from one thin to another", x.lent(6, 1, 1), 0);
        Due.is("to one where none is needed", x.lent(6, 1, 2), 10);
        x.set(3, 0, 3);
        Due.plan(x, 1, 0, 3);
        Due.is("by a plan", x.lent(3, 0, 1), -10 + 10 + 1 - 1);
        int[][] calls = {{-1, 0, 0}, {7, 0, 0}, {6, -1, 0}, {6, 2, 0}, {6, 0, -1}, {6, 0, 4}, {2, 0, 0}, {5, 0, 0}};
        for (int[] c : calls) {
            Due.is("lent(" + c[0] + "," + c[1] + "," + c[2] + ")", x.lent(c[0], c[1], c[2]), NO);
        }
    }

    private static void lost() {
        NobodyBreathes x = new NobodyBreathes();
        x.singer(0, 140, 0);
        x.singer(0, 140, 0);
        x.set(3, 0, 2);
        x.set(4, 0, 10);
        Due.is("from 0 on", x.lost(6, 0, 0), 10);
        Due.is("from 7 on", x.lost(6, 1, 7), 3);
        Due.is("from beyond last on", x.lost(6, 1, 10), 0);
        Due.is("from 47 on", x.lost(6, 1, 47), 0);
        Due.is("nobody is lost", x.bad(6), 0);
        Due.plan(x, 0, 1, 8);
        Due.is("whose breath falls away", x.lost(2, 1, 7), 2);
        int[][] calls = {{-1, 0, 0}, {7, 0, 0}, {6, -1, 0}, {6, 2, 0}, {6, 0, -1}, {6, 0, 48}, {3, 0, 0}, {5, 0, 0}};
        for (int[] c : calls) {
            Due.is("lost(" + c[0] + "," + c[1] + "," + c[2] + ")", x.lost(c[0], c[1], c[2]), NO);
        }
    }

    private static void lostIsHeard() {
        NobodyBreathes x = new NobodyBreathes();
        x.singer(0, 140, 0);
        x.singer(0, 1140, 0);
        x.set(3, 1, 1);
        x.set(4, 0, 4);
        Due.rule(x, "must beside ; may 0 ; thin 1 ;");
        // one is lost in step 1, so the other begins a breath in steps 2 and 3
        Due.is("the other hears it", x.lost(0, 0, 1), 2);
        Due.is("not in step 0", x.lost(0, 0, 0), 3);
        Due.is("by force he doesn't", x.lost(6, 0, 1), 0);
    }

    private static void who() {
        NobodyBreathes x = new NobodyBreathes();
        x.singer(0, 540, 0);
        x.set(3, 0, 1);
        Due.rule(x, "must 0 ; may 0 ; thin step ;");
        Due.plan(x, 1, 0, 10);
        Due.is("bad of it", x.bad(3), 10 + 11 + 12 + 13 + 14);
        Due.is("a breath in 6 takes the one in 10 away", x.who(1), 6);
        Due.is("the plan stays", x.bad(3), 60);
        Due.plan(x, 1, 0, 6, 0, 10);
        Due.is("as told", x.bad(3), 40);
        Due.is("both can't be taken away", x.who(1), NONE);
        Due.plan(x, 1, 0, 6, 3);
        Due.is("as told, without the other", x.who(1), 2);
        Due.plan(x, 1, 0, 0);
        Due.is("none is less", x.who(1), NONE);
        Due.plan(x, 1);
        Due.is("an empty one", x.who(1), NONE);
        Due.is("no sheet", x.who(0), -11);
        Due.is("who(-1)", x.who(-1), BAD);
        Due.is("who(4)", x.who(4), BAD);
        NobodyBreathes y = new NobodyBreathes();
        y.set(3, 0, 9);
        Due.plan(y, 0, 0, 10);
        Due.is("nobody", y.who(0), NONE);
    }

    private static void whoAtEdges() {
        NobodyBreathes x = new NobodyBreathes();
        for (int i = 0; i < 10; i++) {
            x.singer(0, i % 4 * 1000 + 540, 0);
        }
        x.set(3, 1, 3);
        Due.rule(x, "must 0 ; may 0 ; thin step ;");
        Due.plan(x, 0, 9, 4);
        Due.is("the last singer, in the first step", x.bad(2), 4 + 5 + 6 + 7 + 8);
        Due.is("the last singer, in the first step", x.who(0), 900);
        Due.plan(x, 0, 9, 23);
        Due.is("the last step", x.bad(2), 23);
        Due.is("none is less than one step", x.who(0), NONE);
        NobodyBreathes y = new NobodyBreathes();
        y.singer(0, 240, 0);
        y.set(3, 0, 1);
        Due.rule(y, "must 0 ; may 0 ; thin step = 11 ;");
        Due.plan(y, 0, 0, 10);
        Due.is("from 1 to 0", y.bad(2), 1);
        Due.is("from 1 to 0", y.who(0), 9);
    }

    private static void whoOfLikeOnes() {
        NobodyBreathes x = new NobodyBreathes();
        x.singer(0, 240, 0);
        x.singer(0, 1340, 0);
        x.set(3, 0, 1);
        x.set(3, 1, 1);
        Due.rule(x, "must 0 ; may 0 ; thin step = 10 or step = 11 ;");
        Due.plan(x, 2, 0, 10, 1, 10);
        Due.is("bad", x.bad(4), 4);
        Due.is("the least step", x.who(2), 108);
        Due.plan(x, 2, 0, 10);
        Due.is("without the other", x.who(2), 9);
        NobodyBreathes y = new NobodyBreathes();
        y.singer(0, 240, 0);
        y.singer(0, 1240, 0);
        y.set(3, 0, 1);
        y.set(3, 1, 1);
        Due.rule(y, "must 0 ; may 0 ; thin step = 10 or step = 11 ;");
        Due.plan(y, 0, 1, 10, 0, 10);
        Due.is("the least singer", y.who(0), 9);
    }

    private static void imageAndBack() {
        NobodyBreathes x = new NobodyBreathes();
        Due.is("no image", x.back(), NobodyBreathes.STATE);
        x.singer(0, 1140, 0);
        x.set(0, 40, 7);
        x.set(1, 3, 1);
        x.set(2, 4, 1);
        x.set(3, 2, 5);
        x.set(4, 0, 30);
        x.set(5, 0, 2);
        Due.text(x, "must 0;may 0;thin 0;");
        x.force(1);
        Due.is("image", x.image(), 1);
        for (int round = 0; round < 2; round++) {
            x.set(0, 40, 1);
            x.set(1, 3, 0);
            x.set(1, 5, 1);
            x.set(2, 4, 0);
            x.set(3, 2, 0);
            x.set(4, 0, 10);
            x.set(5, 0, 0);
            x.voice(0, 3);
            x.force(0);
            Due.is("back", x.back(), 1);
            Due.is("loud", x.set(0, 40, 7), 7);
            Due.is("bar", x.set(1, 3, 1), 1);
            Due.is("another bar", x.set(1, 5, 0), 0);
            Due.is("s", x.set(2, 4, 1), 1);
            Due.is("least", x.set(3, 2, 5), 5);
            Due.is("last", x.set(4, 0, 30), 30);
            Due.is("echo", x.set(5, 0, 2), 2);
            Due.is("voice", x.voice(0, 1), 1);
            Due.is("the rule", x.force(1), 1);
        }
        x.set(4, 0, 20);
        x.image();
        x.set(4, 0, 21);
        x.back();
        Due.is("a newer image", x.count(1), 20);
    }

    private static void imageOfVoices() {
        NobodyBreathes x = new NobodyBreathes();
        x.singer(0, 1140, 0);
        x.image();
        x.singer(0, 2140, 0);
        x.voice(0, 0);
        x.voice(1, 3);
        x.sheet(0, 0, 4);
        x.feed(2, 0);
        Due.text(x, "");
        x.feed(2, 0);
        Due.is("who came since is counted", x.back(), 2);
        Due.is("voice of the first", x.told(0, 0, 0, 1), 1);
        Due.is("who came since stays as he is", x.told(1, 0, 0, 1), 3);
        Due.is("sheets stay", x.cell(0, 3, 1), 1);
        Due.is("the tape stays", x.count(5), 2);
    }

    private static void count() {
        NobodyBreathes x = new NobodyBreathes();
        x.singer(0, 1140, 0);
        x.set(1, 3, 1);
        x.set(1, 23, 1);
        x.set(1, 24, 1);
        x.set(2, 0, 1);
        x.set(2, 30, 1);
        x.set(3, 0, 4);
        x.set(3, 3, 9);
        x.feed(3, 0);
        int[] due = {1, 24, 2, 1, 1, 3, 0, 13};
        for (int what = 0; what < due.length; what++) {
            Due.is("count(" + what + ")", x.count(what), due[what]);
        }
        x.set(4, 0, 48);
        Due.is("bars of more steps", x.count(2), 3);
        Due.is("s of more steps", x.count(3), 2);
        x.set(4, 0, 3);
        Due.is("bars of few steps", x.count(2), 0);
        Due.is("count(-1)", x.count(-1), BAD);
        Due.is("count(8)", x.count(8), BAD);
    }
}
