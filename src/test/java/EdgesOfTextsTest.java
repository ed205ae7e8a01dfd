/** Boundary cases of promises 6 to 8 and of what the terms say of TEXTS: each block names its sentence first. */
public final class EdgesOfTextsTest {
    private static final int BAD = Edge.BAD, FULL = Edge.FULL, MIN = Edge.MIN, MAX = Edge.MAX;
    private static final String PLAIN = "must 0;may 0;thin 0;", REST = ";may 0;thin 0;";

    public static void main(String[] args) {
        feed();
        feedRefuses();
        tape();
        tokens();
        blanks();
        grammar();
        nots();
        sums();
        words();
        wrapping();
        truths();
        firstFault();
        tooEarly();
        noTokens();
        open();
        openEnds();
        textTakesTheTape();
        sixTexts();
        force();
        Due.end();
    }

    private static void good(String source) {
        NobodyBreathes x = new NobodyBreathes();
        Due.is("'" + source + "'", Due.text(x, source), 1);
        Due.is("'" + source + "' is off the tape", x.count(5), 0);
        Due.is("'" + source + "' is there", x.count(4), 2);
    }

    private static void fault(String source, int place) {
        NobodyBreathes x = new NobodyBreathes();
        Due.is("'" + source + "'", Due.text(x, source), -100 - place);
        Due.is("'" + source + "' is off the tape", x.count(5), 0);
        Due.is("'" + source + "' is none", x.count(4), 1);
    }

    /** What an E is worth, if that is 0 .. 99: one STEP, one singer too few. */
    private static void worth(String e, int due) {
        NobodyBreathes x = new NobodyBreathes();
        x.set(4, 0, 1);
        x.set(3, 0, 1);
        Due.rule(x, "must 0;may 0;thin " + e + ";");
        Due.is("thin " + e, x.bad(6), due);
    }

    private static void feed() {
        Edge.sentence(6, "The n lowest bytes of a number, the lowest first, come behind THE TAPE: how many it has.");
        NobodyBreathes x = new NobodyBreathes();
        Due.is("one", x.feed(1, 0x74_73_75_6dL), 1);
        Due.is("three more, the lowest first", x.feed(3, -1L << 24 | 0x74_73_75L), 4);
        Due.is("eight more", x.feed(8, 0x30_20_79_61_6d_3b_30_20L), 12);
        Due.is("must 0;may 0 ends too early", x.text(), -112);
        NobodyBreathes y = new NobodyBreathes();
        Due.is("of a number below 0", y.feed(8, -1L), 8);
        Due.is("bytes of 255 begin no token", y.text(), -100);
        NobodyBreathes z = new NobodyBreathes();
        z.feed(1, 256 + 32);
        z.feed(8, Long.MIN_VALUE | 0x20_20_20_20_20_20_20L);
        Due.is("the highest of eight comes last", z.text(), -108);
        NobodyBreathes t = new NobodyBreathes();
        Due.is("bytes of 0", t.feed(2, 0L), 2);
        Due.is("begin no token", t.text(), -100);
    }

    private static NobodyBreathes withTape(int bytes) {
        NobodyBreathes x = new NobodyBreathes();
        Due.feed(x, " ".repeat(bytes - PLAIN.length()) + PLAIN);
        Due.is("bytes", x.count(5), bytes);
        return x;
    }

    private static void feedRefuses() {
        Edge.sentence(6, "BAD: n is not 1 .. 8.");
        for (int n : new int[] {0, -1, 9, MIN, MAX}) {
            Edge.refused("feed(" + n + ",-1)", BAD, x -> x.feed(n, -1L));
            Edge.refused("feed(" + n + ",-1), full", BAD, () -> withTape(160), x -> x.feed(n, -1L));
        }
        Edge.sentence(6, "FULL.");
        Edge.refused("one more than 160", FULL, () -> withTape(160), x -> x.feed(1, 32));
        Edge.refused("eight more than 160", FULL, () -> withTape(160), x -> x.feed(8, 32));
        Edge.refused("161", FULL, () -> withTape(153), x -> x.feed(8, 32));
        Edge.refused("161", FULL, () -> withTape(159), x -> x.feed(2, 32));
        Due.is("160", withTape(152).feed(8, 0x20_20_20_20_20_20_20_20L), 160);
        Due.is("160", withTape(159).feed(1, 0), 160);
        NobodyBreathes x = withTape(153);
        x.feed(8, 0x20_20_20_20_20_20_20_20L);
        Due.is("what has room comes behind a refusal", x.feed(7, 0x20_20_20_20_20_20_20L), 160);
        Due.is("as it stood", x.text(), 1);
        Due.is("an empty tape has room again", x.feed(8, 0), 8);
    }

    private static void tape() {
        Edge.sentence(0, "A TEXT is read from THE TAPE (160 bytes at most).");
        good(PLAIN + " ".repeat(160 - PLAIN.length()));
        good("\n".repeat(160 - PLAIN.length()) + PLAIN);
        good("must 0;may 0;thin 0" + " ".repeat(140) + ";");
        fault("must 0;may 0;thin 0;" + " ".repeat(139) + ";", 159);
        fault(" ".repeat(160), 160);
        fault(";".repeat(160), 0);
        good("must " + "1+".repeat(70) + "1" + REST);
    }

    private static void tokens() {
        Edge.sentence(0, "TOKENS, each as long as can be: WORDS (a .. z), NUMBERS (as many digits as stand there, 4 at most), SIGNS ( ) ; + - * < = ;");
        good("must0;may0;thin0;");
        good("must(0)+0-0*0<0;may 0=0;thin-0;");
        good("must 0or 0and not 0;may 0;thin 0;");
        good("must 9999;may 0000;thin 0009;");
        fault("mustnot 0" + REST, 0);
        fault("must heldloud" + REST, 5);
        fault("must 0 ornot 0" + REST, 7);
        fault("must 0held" + REST, 6);
        fault("must held0" + REST, 9);
        fault("must 00000" + REST, 5);
        fault("must 99 99" + REST, 8);
        fault("must 12345" + REST, 5);
        fault("must " + "1".repeat(155), 5);
        fault("must 1<=2" + REST, 7);
        fault("must 1==2" + REST, 7);
        fault("z 0" + REST, 0);
        fault("a 0" + REST, 0);
    }

    /** What stands for the dot in "must.0;..": only a blank, a digit and - can; a letter makes another WORD. */
    private static void blanks() {
        Edge.sentence(0, "blanks (32, 10) may stand between.");
        for (int sign = 0; sign < 256; sign++) {
            String source = "must" + (char) sign + "0" + REST;
            if (sign == 32 || sign == 10 || sign == '-' || (sign >= '0' && sign <= '9')) {
                good(source);
            } else if (sign == '(') {
                fault(source, 6);
            } else {
                fault(source, sign >= 'a' && sign <= 'z' ? 0 : 4);
            }
        }
        good(" \n must \n 0 \n ; \n may \n 0 \n ; \n thin \n 0 \n ; \n ");
        fault("mu st 0" + REST, 0);
        fault("must 1 < = 2" + REST, 9);
    }

    private static void grammar() {
        Edge.sentence(0, "TEXT: must E ; may E ; thin E ;");
        fault("may 0;must 0;thin 0;", 0);
        fault("must 0;thin 0;", 7);
        fault("must 0;may 0;must 0;", 13);
        fault("must 0;may 0;thin 0;must 0;", 20);
        fault("must 0;may 0;thin 0;;", 20);
        fault("must 0;may 0;thin 0;0", 20);
        fault("must;may 0;thin 0;", 4);
        fault("must 0 may 0;thin 0;", 7);
        Edge.sentence(0, "E: AND { or AND }. AND: NOT { and NOT }.");
        good("must 1 or 1 and 1 or not 1 and not 1" + REST);
        fault("must or 1" + REST, 5);
        fault("must 1 or" + REST, 9);
        fault("must 1 and" + REST, 10);
        fault("must 1 and or 1" + REST, 11);
        worth("1 or 1 and 0", 1);
        worth("0 and 1 or 1", 1);
    }

    private static void nots() {
        Edge.sentence(0, "NOT: not NOT, or SUM, perhaps < or = and a SUM.");
        worth("not not 7", 1);
        worth("not 3<2", 1);
        worth("not 1=1", 0);
        worth("1+1<1+2", 1);
        worth("2<2", 0);
        worth("2=2", 1);
        fault("must 1<2<3" + REST, 8);
        fault("must 1=2=3" + REST, 8);
        fault("must not 1<2<3" + REST, 12);
        fault("must 1<not 2" + REST, 7);
        fault("must <2" + REST, 5);
        fault("must 1<" + REST, 7);
        fault("must not" + REST, 8);
        good("must (1<2)<(3=4)" + REST);
    }

    private static void sums() {
        Edge.sentence(0, "SUM: TERM { + or - TERM }. TERM: ONE { * ONE }. ONE: a NUMBER, a NAME, - ONE, ( E ).");
        worth("9-3-2", 4);
        worth("9-(3-2)", 8);
        worth("2+3*4", 14);
        worth("2*3+4", 10);
        worth("2*-3+10", 4);
        worth("--5", 5);
        worth("5--5", 10);
        worth("(not 0)+4", 5);
        fault("must +1" + REST, 5);
        fault("must 1+" + REST, 7);
        fault("must 1++1" + REST, 7);
        fault("must *1" + REST, 5);
        fault("must 1*" + REST, 7);
        fault("must -" + REST, 6);
        fault("must -not 1" + REST, 6);
        fault("must ()" + REST, 6);
        fault("must (1" + REST, 7);
        fault("must 1)" + REST, 6);
        fault("must 1+not 1" + REST, 7);
    }

    private static void words() {
        Edge.sentence(0, "NAMES are held loud step singing beside tired;");
        good("must held;may loud+step;thin singing+beside+tired;");
        fault("must held held" + REST, 10);
        fault("held 0" + REST, 0);
        Edge.sentence(0, "must, may, thin, or, and, not are KEYS.");
        for (String key : new String[] {"must", "may", "thin", "or", "and"}) {
            fault("must " + key + REST, 5);
            fault("must 1+" + key + REST, 7);
        }
        fault("must not" + REST, 8);
    }

    private static void wrapping() {
        String most = "4634*10*4634*10+8804*10+7";
        Edge.sentence(0, "An E is an int (32 bits, wrapping):");
        worth(most + "<0", 0);
        worth(most + "+1<0", 1);
        worth("-(" + most + ")-1<0", 1);
        worth("-(" + most + ")-2<0", 0);
        worth("-(" + most + "+1)<0", 1);
        worth("(" + most + ")*2=-2", 1);
        worth("4096*4096*256=0", 1);
        worth("4096*4096*128<0", 1);
        worth("4096*4096*256+5", 5);
    }

    private static void truths() {
        Edge.sentence(0, "of or, and, not, <, = 1 or 0 (what is not 0 is true).");
        worth("7 or 0", 1);
        worth("0 or -1", 1);
        worth("0 or 0", 0);
        worth("9 and -1", 1);
        worth("9 and 0", 0);
        worth("0 and 9", 0);
        worth("not 0", 1);
        worth("not -1", 0);
        worth("not 9", 0);
        worth("-1<0", 1);
        worth("0<-1", 0);
        worth("5<5", 0);
        worth("5<6", 1);
        worth("5=5", 1);
        worth("5=-5", 0);
        worth("4096*4096*128 or 0", 1);
    }

    private static void firstFault() {
        Edge.sentence(0, "FAULT: the place of the first byte of the first TOKEN that can't stand there");
        fault(")", 0);
        fault("must 0  \n  held" + REST, 11);
        fault("must 0;may 0;thin 0;   held", 23);
        fault("must ;?12345 x", 5);
        fault("must 0 0 ?", 7);
        fault("must 0" + REST + " ".repeat(139) + ";", 159);
    }

    private static void tooEarly() {
        Edge.sentence(0, "(the text's size, if it ends too early),");
        fault("", 0);
        fault(" ", 1);
        fault("\n\n\n", 3);
        fault("must", 4);
        fault("must  ", 6);
        fault("must 0", 6);
        fault("must (", 6);
        fault("must not", 8);
        fault("must 0;may 0;thin 0", 19);
        fault("must 0;may 0;thin 0 \n", 21);
        fault("must " + "1+".repeat(77) + "1", 160);
        fault("must 0;may 0;thin 0" + " ".repeat(141), 160);
    }

    private static void noTokens() {
        Edge.sentence(0, "also of a byte that begins none,");
        for (int sign = 0; sign < 256; sign++) {
            boolean begins = sign >= 'a' && sign <= 'z' || sign >= '0' && sign <= '9' || "();+-*<= \n".indexOf(sign) >= 0;
            if (!begins) {
                fault("must 0 " + (char) sign + REST, 7);
                fault("" + (char) sign, 0);
            }
        }
        Edge.sentence(0, "a WORD that is neither KEY nor NAME,");
        String[] none = {"h", "hel", "helds", "lou", "loudd", "ste", "stepp", "singin", "singingg", "besid", "besides", "tire",
            "tiredd", "mus", "ma", "thi", "o", "an", "no", "ore", "ands", "nott", "xheld", "eld", "zzzzzzz", "singingbeside", "a".repeat(100)};
        for (String word : none) {
            fault("must " + word + REST, 5);
            fault("must 0 or " + word + REST, 10);
        }
        fault("mustt 0" + REST, 0);
        fault("must 0;mayy 0;thin 0;", 7);
        fault("must 0;may 0;thins 0;", 13);
        Edge.sentence(0, "a NUMBER that is too long,");
        good("must 9999" + REST);
        good("must 0000" + REST);
        fault("must 99999" + REST, 5);
        fault("must 00000" + REST, 5);
        fault("must 1+10000" + REST, 7);
        fault("must 1 10000" + REST, 7);
        fault("must 4294967296" + REST, 5);
        fault("1".repeat(160), 0);
    }

    private static void open() {
        Edge.sentence(0, "a ( , a not, a - ahead of a ONE while 5 of these are open");
        good("must (((((1)))))" + REST);
        fault("must ((((((1))))))" + REST, 10);
        good("must not not not not not 1" + REST);
        fault("must not not not not not not 1" + REST, 25);
        good("must -----1" + REST);
        fault("must ------1" + REST, 10);
        good("must not-(not-1)" + REST);
        fault("must not-(not--1)" + REST, 14);
        good("must not-(not(1))" + REST);
        fault("must not-(not(-1))" + REST, 14);
        fault("must not-(not((1)))" + REST, 14);
        fault("must not-(not(not 1))" + REST, 14);
        fault("must ((((not not 1))))" + REST, 13);
        fault("must ((((( not 1)))))" + REST, 11);
        fault("must not not not not not -1" + REST, 25);
        fault("must not not not not not (1)" + REST, 25);
        fault("must -----(1)" + REST, 10);
        good("must (((((1-1)))))" + REST);
        good("must -----1-1-1" + REST);
        fault("must (((((1-(1))))))" + REST, 12);
        fault("must (((((" + "(".repeat(150), 10);
        good("must 0;may (((((0)))));thin (((((0)))));");
        fault("must 0;may 0;thin ((((((0))))));", 23);
        fault("must 0;may ((((((0))))));thin 0;", 16);
        // all that can wait for its other side waits in each of the five, and within them
        String level = "0or 1and 1<1+1*(";
        for (int inner = 0; inner <= 1; inner++) {
            worth(level.repeat(5) + "0or 1and 1<1+1*" + inner + ")))))", inner);
        }
        fault("must " + level.repeat(5) + "0or 1and 1<1+1*(1))))))" + REST, 5 + 16 * 5 + 15);
    }

    private static void openEnds() {
        Edge.sentence(0, "(a ( till its ) , not and - till what they belong to ends).");
        good("must (((((1)))))+(((((1)))))" + REST);
        good("must ((((1))+(((1))))*((1)))" + REST);
        good("must not not not not not 1 and not not not not not 1" + REST);
        good("must not not not not not 1 or (((((1)))))" + REST);
        good("must -----1+-----1" + REST);
        good("must -----1*(((((1)))))" + REST);
        good("must -----1<(((((1)))))" + REST);
        good("must not 1<((((1))))" + REST);
        fault("must not 1<(((((1)))))" + REST, 15);
        fault("must not 1=-----1" + REST, 15);
        fault("must not 1+(((((1)))))" + REST, 15);
        fault("must not (1)*(((((1)))))" + REST, 17);
        good("must not 1 and (((((1)))))" + REST);
        fault("must -(((((1)))))" + REST, 10);
        good("must (-(1)+-(1)+-(1)+-(((1))))" + REST);
        fault("must (1+(((((1))))))" + REST, 12);
        good("must (1)+(1)+(1)+(1)+(1)+(1)+(1)" + REST);
    }

    private static void textTakesTheTape() {
        Edge.sentence(7, "THE TAPE, which is empty then (by a FAULT, too), is a TEXT: its number; -100 less the place of its FAULT.");
        NobodyBreathes x = new NobodyBreathes();
        Due.is("an empty tape", x.text(), -100);
        Due.is("and again", x.text(), -100);
        Due.is("a text", Due.text(x, PLAIN), 1);
        Due.is("the tape is empty", x.count(5), 0);
        Due.is("so there is no second", x.text(), -100);
        Due.is("a fault", Due.text(x, "must 0"), -106);
        Due.is("the tape is empty", x.count(5), 0);
        Due.is("what comes then stands alone", Due.text(x, PLAIN), 2);
        Due.is("a fault at the last byte of all", Due.text(x, PLAIN + " ".repeat(139) + "?"), -259);
        Due.is("a fault behind the last byte of all", Due.text(x, " ".repeat(160)), -260);
        Due.is("faults are no texts", x.count(4), 3);
        Due.is("the rule stays", x.count(6), 0);
        NobodyBreathes y = new NobodyBreathes();
        String[] longer = {"mustmust", "must 12345", "must 0;may 0;thin 0;;"};
        int[] longerDue = {-100, -105, -120};
        String[] shorter = {"must", "must 1234", "must 0;may 0;thin 0;"};
        int[] shorterDue = {-104, -109, 1};
        for (int i = 0; i < 3; i++) {
            Due.is("'" + longer[i] + "'", Due.text(y, longer[i]), longerDue[i]);
            Due.is("'" + shorter[i] + "' behind that", Due.text(y, shorter[i]), shorterDue[i]);
        }
    }

    private static void sixTexts() {
        Edge.sentence(0, "There are 6 TEXTS at most, TEXT 0 with them.");
        NobodyBreathes x = new NobodyBreathes();
        Due.is("one at first", x.count(4), 1);
        for (int i = 1; i <= 5; i++) {
            Due.is("text " + i, Due.text(x, PLAIN), i);
        }
        Due.is("six", x.count(4), 6);
        Edge.sentence(7, "FULL (ahead of all): no TEXT more has room (THE TAPE stays).");
        Due.is("a seventh", Due.text(x, PLAIN), FULL);
        Due.is("the tape stays", x.count(5), PLAIN.length());
        Due.is("and again", x.text(), FULL);
        Due.is("it goes on behind that", x.feed(1, 32), PLAIN.length() + 1);
        Edge.refused("ahead of an empty tape's fault", FULL, Edge::fullTexts, y -> y.text());
        Edge.refused("ahead of a fault", FULL, () -> {
            NobodyBreathes y = Edge.fullTexts();
            y.feed(1, '?');
            return y;
        }, y -> y.text());
        NobodyBreathes y = new NobodyBreathes();
        for (int i = 0; i < 20; i++) {
            Due.is("faults take no room", Due.text(y, "?"), -100);
        }
        Due.is("faults take no room", Due.text(y, PLAIN), 1);
    }

    private static void force() {
        Edge.sentence(8, "A TEXT is THE RULE: which was.");
        NobodyBreathes x = Edge.fullTexts();
        Due.is("to the last", x.force(5), 0);
        Due.is("to the last again", x.force(5), 5);
        Due.is("to the first", x.force(0), 5);
        Due.is("the first", x.count(6), 0);
        x.set(4, 0, 1);
        x.set(3, 0, 1);
        for (int i = 1; i <= 5; i++) {
            x.force(i);
            Due.is("it is that text", x.bad(0), i);
        }
        Edge.sentence(8, "BAD.");
        for (int text : new int[] {-1, 2, 5, 6, MIN, MAX}) {
            Edge.refused("force(" + text + ")", BAD, y -> y.force(text));
        }
        Edge.refused("force(6) of six", BAD, Edge::fullTexts, y -> y.force(6));
        Edge.refused("force(1) of one", BAD, NobodyBreathes::new, y -> y.force(1));
    }
}
