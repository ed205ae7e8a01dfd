/** Promises 6 to 8: feed, text, force; and what an E is worth. */
public final class TextTest {
    private static final int BAD = NobodyBreathes.BAD, FULL = NobodyBreathes.FULL;
    private static final String PLAIN = "must 0 ; may 0 ; thin 0 ;";

    public static void main(String[] args) {
        feed();
        faults();
        openOnes();
        goodOnes();
        fullTape();
        deep();
        manyTexts();
        force();
        worth();
        Due.end();
    }

    private static void feed() {
        NobodyBreathes x = new NobodyBreathes();
        Due.is("feed 0", x.feed(0, 0), BAD);
        Due.is("feed 9", x.feed(9, 0), BAD);
        Due.is("feed -1", x.feed(-1, 0), BAD);
        Due.is("nothing came", x.count(5), 0);
        Due.is("feed 3", x.feed(3, 0x7f7f7f_41_42_43L), 3);
        for (int i = 1; i <= 19; i++) {
            Due.is("feed 8", x.feed(8, -1L), 3 + 8 * i);
        }
        Due.is("155", x.count(5), 155);
        Due.is("feed 6 too many", x.feed(6, 0), FULL);
        Due.is("feed 0 is bad first", x.feed(0, 0), BAD);
        Due.is("feed 5", x.feed(5, 0), 160);
        Due.is("feed 1 too many", x.feed(1, 0), FULL);
        Due.is("160", x.count(5), 160);
        Due.is("its first byte is none", x.text(), -100);
        Due.is("empty", x.count(5), 0);
        x.feed(5, 0x20_74_73_75_6dL);
        Due.is("the lowest byte comes first", x.text(), -105);
    }

    private static void fault(String source, int place) {
        NobodyBreathes x = new NobodyBreathes();
        Due.is("'" + source + "'", Due.text(x, source), -100 - place);
        Due.is("'" + source + "' is gone", x.count(5), 0);
        Due.is("'" + source + "' is no text", x.count(4), 1);
    }

    private static void faults() {
        fault("", 0);
        fault("   ", 3);
        fault("must", 4);
        fault("must 0", 6);
        fault("must 0 ; may 0 ; thin 0", 23);
        fault("must 0 ; may 0 ; thin 0 \n", 25);
        fault("may 0 ; must 0 ; thin 0 ;", 0);
        fault("must 0 ; thin 0 ;", 9);
        fault("must 0 ; may 0 ; thin 0 ; x", 26);
        fault("must 0 ; may 0 ; thin 0 ; ;", 26);
        fault("must 0 ; may 0 ; thin 0 ; must", 26);
        fault("must ;", 5);
        fault("must 12345 ;", 5);
        fault("must 00000 ;", 5);
        fault("must 1 12345 ;", 7);
        fault("must hel ;", 5);
        fault("must heldx ;", 5);
        fault("must singingg ;", 5);
        fault("must a ;", 5);
        fault("must xeld ;", 5);
        fault("must heldz ;", 5);
        fault("must z ;", 5);
        fault("oust 0 ;", 0);
        fault("must ? ;", 5);
        fault("must\t0 ;", 4);
        fault("must 0\r;", 6);
        fault("Must 0 ;", 0);
        fault("must 0 > 1 ;", 7);
        fault("must 0 \u00e9 ;", 7);
        fault("must 0 \u0000 ;", 7);
        fault("must 1 < 2 < 3 ;", 11);
        fault("must 1 = 2 < 3 ;", 11);
        fault("must not 1 < 2 = 3 ;", 15);
        fault("must 1 + not 2 ;", 9);
        fault("must 1 < not 2 ;", 9);
        fault("must - not 2 ;", 7);
        fault("must 1 1 ;", 7);
        fault("must 8held ;", 6);
        fault("must ) ;", 5);
        fault("must ( ) ;", 7);
        fault("must ( 1 ;", 9);
        fault("must 1 ) ;", 7);
        fault("must 1 + ;", 9);
        fault("must 1 * * 2 ;", 9);
        fault("must or 1 ;", 5);
        fault("must 1 and ;", 11);
        fault("must + 1 ;", 5);
        fault("must may ;", 5);
        fault("must 1 or or 1 ;", 10);
        // the first of two faults
        fault("must ; ? 12345", 5);
    }

    private static void good(String source) {
        NobodyBreathes x = new NobodyBreathes();
        Due.is("'" + source + "'", Due.text(x, source), 1);
    }

    private static void openOnes() {
        String rest = " ; may 0 ; thin 0 ;";
        good("must (((((1)))))" + rest);
        fault("must ((((((1))))))" + rest, 10);
        good("must not not not not not 1" + rest);
        fault("must not not not not not not 1" + rest, 25);
        good("must -----1" + rest);
        fault("must ------1" + rest, 10);
        good("must not-(-(1))" + rest);
        good("must not - ( - ( 1 ) )" + rest);
        fault("must not - ( - ( - 1 ) )" + rest, 17);
        good("must (1)+(1)*(1)-(1)+(1)+(1)+(1)" + rest);
        good("must not 1 or not 1 or not 1 or not 1 or not 1 or not 1 or not 1" + rest);
        good("must -1 - -1 - -1 - -1 - -1 - -1 - -1" + rest);
        good("must ((((1-1-1-1-1-1-1)))) + -----1" + rest);
        good("must (((( -1 )))) and (((( -1 ))))" + rest);
        fault("must (((( --1 ))))" + rest, 11);
        // the sixth is no fault of its own where none could stand
        fault("must (((((1 ( 1" + rest, 12);
    }

    private static void goodOnes() {
        good(PLAIN);
        good("must0;may8<held;thin1;");
        good("  \n must\n0 ;may 9999;thin 0000 ;\n ");
        good("must held + loud + step ; may singing * beside ; thin tired ;");
    }

    /** What stands at the very end of a full tape. */
    private static void fullTape() {
        String start = "must 0 ; may 0 ; thin 0";
        good(start + " ".repeat(160 - start.length() - 1) + ";");
        good(start + ";" + " ".repeat(160 - start.length() - 1));
        good("must" + "\n".repeat(160 - PLAIN.length()) + PLAIN.substring(4));
        fault(start + " ".repeat(160 - start.length()), 160);
        fault(start + ";" + " ".repeat(160 - start.length() - 5) + "held", 156);
        fault(start + ";" + " ".repeat(160 - start.length() - 5) + "1234", 156);
        fault("must " + "1234+".repeat(30) + "12345", 155);
        fault("must " + "1234+".repeat(30) + "     ", 160);
        fault("must " + "held+".repeat(30) + "heldd", 155);
        fault("a".repeat(160), 0);
        fault("1".repeat(160), 0);
        good("must 1" + "+1".repeat(66) + ";may 0;thin 0;      ");
    }

    private static void deep() {
        String level = "0or 1and 1<1+1*(";
        for (int inner = 0; inner < 2; inner++) {
            worth("0or 1and 1<1+1*" + inner, inner);
            worth(level + "0or 1and 1<1+1*" + inner + ")", inner);
            worth(level.repeat(5) + "0or 1and 1<1+1*" + inner + ")))))", inner);
        }
        worth("1" + "+1".repeat(60), 61);
        worth("step" + "+loud".repeat(20), 60);
    }

    private static void manyTexts() {
        NobodyBreathes x = new NobodyBreathes();
        for (int i = 1; i <= 5; i++) {
            Due.is("text " + i, Due.text(x, PLAIN), i);
        }
        Due.is("six texts", x.count(4), 6);
        Due.is("one too many", Due.text(x, PLAIN), FULL);
        Due.is("the tape stays", x.count(5), PLAIN.length());
        NobodyBreathes y = new NobodyBreathes();
        for (int i = 1; i <= 5; i++) {
            Due.text(y, PLAIN);
        }
        Due.is("full ahead of a fault", Due.text(y, "?"), FULL);
        Due.is("the wrong tape stays", y.count(5), 1);
    }

    private static void force() {
        NobodyBreathes x = new NobodyBreathes();
        Due.is("no text 1", x.force(1), BAD);
        Due.is("no text -1", x.force(-1), BAD);
        Due.text(x, PLAIN);
        Due.is("a new text is not the rule", x.count(6), 0);
        Due.is("force 1", x.force(1), 0);
        Due.is("no text 2", x.force(2), BAD);
        Due.is("no text 6", x.force(6), BAD);
        Due.is("the rule", x.count(6), 1);
        Due.is("force 1 again", x.force(1), 1);
        Due.is("force 0", x.force(0), 1);
    }

    /** One step, nobody in voice 0, of which one should sing: bad is what thin tells. */
    private static void worth(String e, int due) {
        NobodyBreathes x = new NobodyBreathes();
        x.set(4, 0, 1);
        x.set(3, 0, 1);
        Due.rule(x, "must 0;may 0;thin " + e + ";");
        Due.is("thin " + e, x.bad(0), due);
    }

    private static void worth() {
        worth("7", 7);
        worth("0-5", 0);
        worth("99", 99);
        worth("100", 99);
        worth("9999", 99);
        worth("1+2*3", 7);
        worth("(1+2)*3", 9);
        worth("20-2-3", 15);
        worth("20-(2-3)", 21);
        worth("2*3*4", 24);
        worth("2<3", 1);
        worth("3<3", 0);
        worth("3=3", 1);
        worth("3=2", 0);
        worth("1+1=2", 1);
        worth("-5<-4", 1);
        worth("5 or 0", 1);
        worth("0 or 0", 0);
        worth("(5)", 5);
        worth("2 and 4", 1);
        worth("2 and 0", 0);
        worth("not 5", 0);
        worth("not 0", 1);
        worth("not not 5", 1);
        worth("not 3 < 2", 1);
        worth("not 1 + 1", 0);
        worth("not 0 and 0", 0);
        worth("1 or 1 and 0", 1);
        worth("(1 or 1) and 0", 0);
        worth("7 or 0 = 0", 1);
        worth("-5+9", 4);
        worth("-5*-3", 15);
        worth("--5", 5);
        worth("-(2-9)", 7);
        worth("9999*9999*9999<0", 1);
        worth("9999*9999*9999*9999<0", 0);
        worth("9999*9999*22<0", 1);
        worth("loud", 3);
        worth("step", 0);
        worth("held+singing+beside+tired", 0);
        NobodyBreathes x = new NobodyBreathes();
        x.set(4, 0, 5);
        x.set(3, 2, 2);
        x.set(0, 4, 9);
        Due.rule(x, "must 0;may 0;thin 10*loud+step;");
        Due.is("thin by loud and step, two too few", x.bad(6), 2 * (30 + 31 + 32 + 33 + 94));
        x.set(0, 4, 3);
        x.set(0, 3, 9);
        x.set(4, 0, 48);
        Due.rule(x, "must 0;may 0;thin step;");
        Due.is("thin by step", x.bad(1), 2 * (47 * 48 / 2));
    }
}
