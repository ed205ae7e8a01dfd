/** Boundary cases: each stands behind the sentence of the document that tells it, and a refused call changes nothing. */
final class Edge {
    static final int NONE = -1, BAD = -2, STATE = -3, FULL = -4;
    static final int NOTHING = -11, OUTSIDE = -12, OTHER = -13, BELOW = -14;
    static final long NO = -4611686018427387904L;
    static final int MIN = Integer.MIN_VALUE, MAX = Integer.MAX_VALUE;

    interface Call {
        long on(NobodyBreathes x);
    }

    interface Maker {
        NobodyBreathes made();
    }

    private Edge() {
    }

    /** What follows is held against these words of a promise (0: of what stands ahead of promise 1). */
    static void sentence(int promise, String words) {
        Due.named((promise == 0 ? "terms" : "promise " + promise) + ": \"" + words + "\": ");
        Due.holds("the document says so", Document.says(promise, words));
    }

    /** Of KIND 0 and NUMBER 0, by rests. */
    static NobodyBreathes choir(int... rests) {
        NobodyBreathes x = new NobodyBreathes();
        for (int rest : rests) {
            Due.holds(rest + " is taken", x.singer(0, rest, 0) >= 0);
        }
        return x;
    }

    /** Who sings in the first STEPS. */
    static void sings(NobodyBreathes x, int way, int... bits) {
        for (int s = 0; s < bits.length; s++) {
            Due.is("sing(" + way + "," + s + ")", x.sing(way, s), bits[s]);
        }
    }

    /** No state of it is as at first: three SINGERS, rows of each sort and one missing, a TEXT unread, an image. */
    static NobodyBreathes piece() {
        NobodyBreathes x = choir(110, 1212);
        x.singer(3, 2315, 5);
        x.set(0, 2, 7);
        x.set(0, 47, 1);
        x.set(1, 3, 1);
        x.set(2, 4, 1);
        x.set(3, 0, 1);
        x.set(3, 3, 2);
        x.set(5, 0, 1);
        Due.plan(x, 0, 0, 5, 1, 7, 2, 9);
        x.sheet(1, 0, 3);
        x.cell(1, 1, 102);
        x.sheet(3, 1, 40);
        x.cell(3, 39, 4);
        Due.rule(x, "must 0;may 5<held;thin 2;");
        x.image();
        x.set(4, 0, 20);
        x.voice(2, 1);
        Due.feed(x, "must 0;may 0;thin 3;");
        return x;
    }

    static NobodyBreathes fullChoir() {
        NobodyBreathes x = piece();
        for (int i = 3; i < 10; i++) {
            x.singer(0, 130 + i, i);
        }
        return x;
    }

    static NobodyBreathes fullTexts() {
        NobodyBreathes x = new NobodyBreathes();
        for (int i = 1; i <= 5; i++) {
            Due.text(x, "must 0;may 0;thin " + i + ";");
        }
        return x;
    }

    /** The call's answer is due, and all that can be asked is as it is without the call. */
    static void refused(String name, long due, Maker maker, Call call) {
        NobodyBreathes x = maker.made();
        Due.is(name, call.on(x), due);
        String was = look(maker.made());
        String is = look(x);
        Due.holds(name + " changes nothing, but " + was + " became " + is, was.equals(is));
    }

    static void refused(String name, long due, Call call) {
        refused(name, due, Edge::piece, call);
    }

    /** All that an object tells; it is of no use behind this, for some of it is told by changing it. */
    private static String look(NobodyBreathes x) {
        StringBuilder b = new StringBuilder();
        for (int what = 0; what < 8; what++) {
            b.append(x.count(what)).append(' ');
        }
        for (int i = 0; i < x.count(0); i++) {
            for (int what = 0; what < 6; what++) {
                b.append(x.told(i, 3, 2, what)).append(' ');
            }
            b.append(x.taken(i, 0)).append(' ');
        }
        for (int way = 0; way < 7; way++) {
            b.append("way ").append(way).append(": ").append(x.wrong(way)).append(' ').append(x.bad(way)).append(' ');
            b.append(x.breaths(way, NONE)).append(' ').append(x.sing(way, 9)).append(' ');
        }
        for (int i = 0; i < 4; i++) {
            b.append("row ").append(i).append(": ").append(x.cell(i, 0, 0)).append(x.cell(i, 2, 0)).append(x.cell(i, 3, 0));
            b.append(x.cell(i, 5, 0)).append(x.cell(i, 6, 0)).append(x.cell(i, 39, 0)).append(x.singers(i, 0, 0, 0)).append(' ');
        }
        int text = x.text();
        b.append("text ").append(text).append(' ').append(x.force(text)).append(' ').append(x.bad(6)).append(' ').append(x.count(5));
        lookAtPiece(x, b.append(" now: "));
        b.append(" back: ").append(x.back()).append(' ').append(x.count(1)).append(' ').append(x.count(6)).append(' ').append(x.told(2, 0, 0, 1));
        return b.toString();
    }

    private static void lookAtPiece(NobodyBreathes x, StringBuilder b) {
        for (int what = 0; what < 3; what++) {
            for (int s = 0; s < 48; s++) {
                b.append(x.set(what, s, 0));
            }
        }
        for (int v = 0; v < 4; v++) {
            b.append(x.set(3, v, 0));
        }
        b.append(' ').append(x.set(4, 0, 1)).append(' ').append(x.set(5, 0, 0));
    }
}
