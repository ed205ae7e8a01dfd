import java.util.ArrayList;
import java.util.HashMap;
import java.util.List;
import java.util.Map;
import java.util.function.IntUnaryOperator;

/**
 * The document once more, written to be compared with the program: from its words, as literally as
 * can be, with whole histories in place of counters and real Java rows and exceptions in the host.
 */
final class Oracle {
    static final int NONE = -1, BAD = -2, STATE = -3, FULL = -4;
    static final long NO = -4611686018427387904L;

    private static final class One {
        int kind, voice, takes, hold, number;
    }

    private static final class Fault extends RuntimeException {
        final int place;

        Fault(int place) {
            super("fault", null, false, false);
            this.place = place;
        }
    }

    private static final class Image {
        int last, echo, rule;
        int[] loud, bar, hiss, least, voices;
    }

    private int last = 24, echo = 0, rule = 0;
    private int[] loud = new int[48], bar = new int[48], hiss = new int[48], least = new int[4];
    private final List<One> all = new ArrayList<>();
    private final List<String> texts = new ArrayList<>();
    private String tape = "";
    private final Object[] sheets = new Object[4];
    private Image image = null;

    Oracle() {
        for (int i = 0; i < 48; i++) {
            loud[i] = 3;
        }
        texts.add("must 0 ; may 8 < held ; thin 1 ;");
    }

    private static boolean in(int v, int low, int high) {
        return low <= v && v <= high;
    }

    // ---- the piece, singers

    int set(int what, int at, int v) {
        int was;
        switch (what) {
            case 0:
                if (!in(at, 0, 47) || !in(v, 0, 9)) return BAD;
                was = loud[at];
                loud[at] = v;
                return was;
            case 1:
                if (!in(at, 0, 47) || !in(v, 0, 1)) return BAD;
                was = bar[at];
                bar[at] = v;
                return was;
            case 2:
                if (!in(at, 0, 47) || !in(v, 0, 1)) return BAD;
                was = hiss[at];
                hiss[at] = v;
                return was;
            case 3:
                if (!in(at, 0, 3) || !in(v, 0, 9)) return BAD;
                was = least[at];
                least[at] = v;
                return was;
            case 4:
                if (!in(v, 1, 48)) return BAD;
                was = last;
                last = v;
                return was;
            case 5:
                if (!in(v, 0, 5)) return BAD;
                was = echo;
                echo = v;
                return was;
            default:
                return BAD;
        }
    }

    int singer(int kind, int rest, int number) {
        if (!in(kind, 0, 5) || !in(number, 0, 9)) return BAD;
        for (int voice = 0; voice <= 3; voice++) {
            for (int takes = 1; takes <= 9; takes++) {
                for (int hold = 2; hold <= 40; hold++) {
                    if (1000 * voice + 100 * takes + hold == rest) {
                        if (all.size() == 10) return FULL;
                        One one = new One();
                        one.kind = kind;
                        one.voice = voice;
                        one.takes = takes;
                        one.hold = hold;
                        one.number = number;
                        all.add(one);
                        return all.size() - 1;
                    }
                }
            }
        }
        return BAD;
    }

    int voice(int singer, int voice) {
        if (!in(singer, 0, all.size() - 1) || !in(voice, 0, 3)) return BAD;
        int was = all.get(singer).voice;
        all.get(singer).voice = voice;
        return was;
    }

    private static int canHold(One x, int l, int often) {
        int h = x.hold;
        int n = x.number;
        int[] by = {h - l, h - l + l / 2, h - l - often, h - l - often - n, h - l + l / 2 + n, (h - l) / 2};
        return by[x.kind] < 1 ? 1 : by[x.kind];
    }

    private static int takes(One x, int often) {
        if (x.kind == 5) return 2 * x.takes;
        if ((x.kind == 2 || x.kind == 3) && often >= 3) return x.takes + 1;
        return x.takes;
    }

    private static boolean says(One x, int l) {
        boolean even = x.number % 2 == 0;
        boolean[] by = {even, false, even, l < 5 && even, false, true};
        return by[x.kind];
    }

    int told(int singer, int often, int step, int what) {
        if (!in(singer, 0, all.size() - 1) || !in(often, 0, 48) || !in(step, 0, 47) || !in(what, 0, 5)) return BAD;
        One x = all.get(singer);
        int[] by = {x.kind, x.voice, canHold(x, loud[step], often), takes(x, often), says(x, loud[step]) ? 1 : 0, x.hold};
        return by[what];
    }

    // ---- texts

    int feed(int n, long bytes) {
        if (!in(n, 1, 8)) return BAD;
        if (tape.length() + n > 160) return FULL;
        for (int i = 0; i < n; i++) {
            tape += (char) (bytes & 255);
            bytes = bytes >>> 8;
        }
        return tape.length();
    }

    int text() {
        if (texts.size() == 6) return FULL;
        String source = tape;
        tape = "";
        try {
            new Speaker(source, new HashMap<>()).whole();
        } catch (Fault f) {
            return -100 - f.place;
        }
        texts.add(source);
        return texts.size() - 1;
    }

    int force(int text) {
        if (!in(text, 0, texts.size() - 1)) return BAD;
        int was = rule;
        rule = text;
        return was;
    }

    /** Reads and reckons in one go; a NAME that the map doesn't have is 0. */
    private static final class Speaker {
        private final List<String> tokens = new ArrayList<>();
        private final List<Integer> places = new ArrayList<>();
        private final Map<String, Integer> names;
        private int at = 0;
        private int open = 0;

        Speaker(String source, Map<String, Integer> names) {
            this.names = names;
            int p = 0;
            while (p < source.length()) {
                char c = source.charAt(p);
                if (c == 32 || c == 10) {
                    p++;
                    continue;
                }
                int q = p + 1;
                boolean letter = c >= 'a' && c <= 'z';
                boolean digit = c >= '0' && c <= '9';
                while (q < source.length() && ((letter && source.substring(q, q + 1).matches("[a-z]"))
                        || (digit && source.substring(q, q + 1).matches("[0-9]")))) {
                    q++;
                }
                tokens.add(source.substring(p, q));
                places.add(p);
                p = q;
            }
            tokens.add("");
            places.add(source.length());
        }

        private boolean is(String token) {
            return tokens.get(at).equals(token);
        }

        private Fault fault() {
            return new Fault(places.get(at));
        }

        private void need(String token) {
            if (!is(token)) throw fault();
            at++;
        }

        private void enter() {
            if (open == 5) throw fault();
            open++;
            at++;
        }

        int[] whole() {
            int[] values = new int[3];
            need("must");
            values[0] = either();
            need(";");
            need("may");
            values[1] = either();
            need(";");
            need("thin");
            values[2] = either();
            need(";");
            if (at != tokens.size() - 1) throw fault();
            return values;
        }

        private int either() {
            int v = both();
            while (is("or")) {
                at++;
                int w = both();
                v = v != 0 || w != 0 ? 1 : 0;
            }
            return v;
        }

        private int both() {
            int v = negated();
            while (is("and")) {
                at++;
                int w = negated();
                v = v != 0 && w != 0 ? 1 : 0;
            }
            return v;
        }

        private int negated() {
            if (is("not")) {
                enter();
                int v = negated();
                open--;
                return v == 0 ? 1 : 0;
            }
            int v = sum();
            if (is("<")) {
                at++;
                return v < sum() ? 1 : 0;
            }
            if (is("=")) {
                at++;
                return v == sum() ? 1 : 0;
            }
            return v;
        }

        private int sum() {
            int v = term();
            while (is("+") || is("-")) {
                boolean plus = is("+");
                at++;
                int w = term();
                v = plus ? v + w : v - w;
            }
            return v;
        }

        private int term() {
            int v = one();
            while (is("*")) {
                at++;
                v = v * one();
            }
            return v;
        }

        private int one() {
            String t = tokens.get(at);
            if (t.matches("[0-9]{1,4}")) {
                at++;
                return Integer.parseInt(t);
            }
            if (t.matches("held|loud|step|singing|beside|tired")) {
                at++;
                return names.getOrDefault(t, 0);
            }
            if (t.equals("-")) {
                enter();
                int v = one();
                open--;
                return -v;
            }
            if (t.equals("(")) {
                enter();
                int v = either();
                need(")");
                open--;
                return v;
            }
            throw fault();
        }
    }

    // ---- ways: a Song is a whole history

    private final class Song {
        final int steps;
        final IntUnaryOperator loudAt;
        final int[] voices;
        final boolean[][] sings;
        final List<List<Integer>> begun = new ArrayList<>();
        int gone = -1, goneFrom = 0;

        Song(int steps, IntUnaryOperator loudAt, int[] voices) {
            this.steps = steps;
            this.loudAt = loudAt;
            this.voices = voices;
            sings = new boolean[steps][all.size()];
            for (int i = 0; i < all.size(); i++) {
                begun.add(new ArrayList<>());
            }
        }

        Song without(int singer, int from) {
            gone = singer;
            goneFrom = from;
            return this;
        }

        Song by(int way, List<int[]> pairs) {
            for (int s = 0; s < steps; s++) {
                List<Integer> starters = new ArrayList<>();
                for (int i = 0; i < all.size(); i++) {
                    if (silentYet(i, s) == 0 && begins(way, pairs, i, s)) starters.add(i);
                }
                for (int i : starters) {
                    begun.get(i).add(s);
                }
                for (int i = 0; i < all.size(); i++) {
                    sings[s][i] = silentYet(i, s) == 0 && !(i == gone && s >= goneFrom);
                }
            }
            return this;
        }

        /** For how many STEPS, from s on, he doesn't sing by the breaths that he has begun. */
        int silentYet(int i, int s) {
            List<Integer> b = begun.get(i);
            if (b.isEmpty()) return 0;
            int end = b.get(b.size() - 1) + takes(all.get(i), b.size() - 1);
            return Math.max(0, end - s);
        }

        int heldAhead(int i, int s) {
            int n = 0;
            while (s - 1 - n >= 0 && sings[s - 1 - n][i]) n++;
            return n;
        }

        /** How often he had begun one with STEP s. */
        int oftenWith(int i, int s) {
            int n = 0;
            for (int b : begun.get(i)) {
                if (b <= s) n++;
            }
            return n;
        }

        private boolean begins(int way, List<int[]> pairs, int i, int s) {
            if (way == 1) return bar[s] == 1;
            if (way >= 2 && way <= 5) {
                for (int[] p : pairs) {
                    if (p[0] == i && p[1] == s) return true;
                }
                return false;
            }
            int often = begun.get(i).size();
            if (heldAhead(i, s) >= canHold(all.get(i), loudAt.applyAsInt(s), often)) return true;
            if (way == 6) return false;
            int singing = 0;
            int beside = 0;
            for (int j = 0; j < all.size(); j++) {
                boolean sang = s == 0 || sings[s - 1][j];
                if (j != i && voices[j] == voices[i] && sang) singing++;
                if (Math.abs(i - j) == 1 && !sang) beside++;
            }
            int[] v = reckoned(heldAhead(i, s), loudAt.applyAsInt(s), s, singing, beside, often);
            return v[0] != 0 || (v[1] != 0 && singing >= least[voices[i]] && beside == 0);
        }

        int of(int v, int s) {
            int n = 0;
            for (int i = 0; i < all.size(); i++) {
                if (voices[i] == v && sings[s][i]) n++;
            }
            return n;
        }

        boolean heard(int v, int s) {
            if (s - echo < 0) return false;
            for (int t = s - echo; t <= s; t++) {
                if (of(v, t) >= least[v]) return false;
            }
            return true;
        }

        long bad() {
            long sum = 0;
            for (int s = 0; s < steps; s++) {
                int worth = Math.min(99, Math.max(0, reckoned(0, loud[s], s, 0, 0, 0)[2]));
                for (int v = 0; v < 4; v++) {
                    if (heard(v, s)) sum += worth * (long) (least[v] - of(v, s));
                }
            }
            return sum;
        }

        int wrongIn(int s) {
            for (int i = 0; i < all.size(); i++) {
                if (heldAhead(i, s + 1) > canHold(all.get(i), loud[s], oftenWith(i, s))) return 100 + i;
            }
            for (int i = 0; i + 1 < all.size(); i++) {
                if (!sings[s][i] && !sings[s][i + 1]) return 200 + i;
            }
            for (int v = 0; v < 4; v++) {
                if (heard(v, s)) return 300 + v;
            }
            int sayers = 0;
            for (int i = 0; i < all.size(); i++) {
                if (sings[s][i] && says(all.get(i), loud[s])) sayers++;
            }
            return hiss[s] == 1 && (sayers == 0 || sayers > 3) ? 400 : 0;
        }

        String behind(int s) {
            StringBuilder b = new StringBuilder();
            for (int i = 0; i < all.size(); i++) {
                b.append(heldAhead(i, s + 1)).append('/').append(silentYet(i, s + 1)).append(' ');
            }
            return b.toString();
        }
    }

    private int[] reckoned(int held, int l, int step, int singing, int beside, int tired) {
        Map<String, Integer> names = new HashMap<>();
        names.put("held", held);
        names.put("loud", l);
        names.put("step", step);
        names.put("singing", singing);
        names.put("beside", beside);
        names.put("tired", tired);
        return new Speaker(texts.get(rule), names).whole();
    }

    private int[] voices() {
        int[] v = new int[all.size()];
        for (int i = 0; i < v.length; i++) {
            v[i] = all.get(i).voice;
        }
        return v;
    }

    private static int item(Object row, int i) {
        return row instanceof byte[] ? ((byte[]) row)[i] : row instanceof short[] ? ((short[]) row)[i] : ((int[]) row)[i];
    }

    private static int sizeOf(Object row) {
        return row instanceof byte[] ? ((byte[]) row).length : row instanceof short[] ? ((short[]) row).length : ((int[]) row).length;
    }

    private List<int[]> pairs(int way) {
        List<int[]> pairs = new ArrayList<>();
        if (way >= 2 && way <= 5) {
            Object row = sheets[way - 2];
            for (int at = 0; at + 1 < sizeOf(row); at += 2) {
                pairs.add(new int[] {item(row, at), item(row, at + 1)});
            }
        }
        return pairs;
    }

    private Song sung(int way) {
        return new Song(last, s -> loud[s], voices()).by(way, pairs(way));
    }

    private boolean noSheet(int way) {
        return way >= 2 && way <= 5 && sheets[way - 2] == null;
    }

    int sing(int way, int step) {
        if (!in(way, 0, 6) || !in(step, 0, last - 1)) return BAD;
        if (noSheet(way)) return -11;
        Song song = sung(way);
        int bits = 0;
        for (int i = 0; i < all.size(); i++) {
            if (song.sings[step][i]) bits += 1 << i;
        }
        return bits;
    }

    int of(int way, int step, int voice) {
        if (!in(way, 0, 6) || !in(step, 0, last - 1) || !in(voice, 0, 3)) return BAD;
        return noSheet(way) ? -11 : sung(way).of(voice, step);
    }

    int wrong(int way) {
        if (!in(way, 0, 6)) return BAD;
        if (noSheet(way)) return -11;
        Song song = sung(way);
        for (int s = 0; s < last; s++) {
            int w = song.wrongIn(s);
            if (w != 0) return 1000 * s + w;
        }
        return NONE;
    }

    long bad(int way) {
        return !in(way, 0, 6) || noSheet(way) ? NO : sung(way).bad();
    }

    int breaths(int way, int singer) {
        if (!in(way, 0, 6) || !in(singer, -1, all.size() - 1)) return BAD;
        if (noSheet(way)) return -11;
        Song song = sung(way);
        int sum = 0;
        for (int i = 0; i < all.size(); i++) {
            if (singer == -1 || singer == i) sum += song.begun.get(i).size();
        }
        return sum;
    }

    // ---- for ever, lent, lost

    int fewest(int h, int t, int m) {
        if (!in(h, 1, 40) || !in(t, 1, 18) || !in(m, 0, 99)) return BAD;
        int n = 0;
        while (n * h < m * (h + t)) n++;
        return n;
    }

    int round(int way, int evenLoud, int what) {
        if ((way != 0 && way != 6) || !in(evenLoud, 0, 9) || !in(what, 0, 1)) return BAD;
        Song song = new Song(200, s -> evenLoud, voices()).by(way, new ArrayList<>());
        Map<String, Integer> seen = new HashMap<>();
        // silentYet() tells of the breaths begun by the end, so the states are taken from songs that end there.
        for (int s = 0; s < 200; s++) {
            StringBuilder state = new StringBuilder();
            for (int i = 0; i < all.size(); i++) {
                int silent = 0;
                int nth = 0;
                for (int b : song.begun.get(i)) {
                    if (b <= s) silent = Math.max(0, b + takes(all.get(i), nth) - (s + 1));
                    nth++;
                }
                state.append(song.heldAhead(i, s + 1)).append('/').append(silent).append(' ');
            }
            Integer earlier = seen.putIfAbsent(state.toString(), s);
            if (earlier != null) return what == 0 ? s : earlier;
        }
        return NONE;
    }

    long lent(int way, int singer, int voice) {
        if (!in(way, 0, 6) || !in(singer, 0, all.size() - 1) || !in(voice, 0, 3) || noSheet(way)) return NO;
        int[] other = voices();
        other[singer] = voice;
        return new Song(last, s -> loud[s], other).by(way, pairs(way)).bad() - sung(way).bad();
    }

    long lost(int way, int singer, int step) {
        if (!in(way, 0, 6) || !in(singer, 0, all.size() - 1) || !in(step, 0, 47) || noSheet(way)) return NO;
        Song without = new Song(last, s -> loud[s], voices()).without(singer, step).by(way, pairs(way));
        return without.bad() - sung(way).bad();
    }

    int who(int sheet) {
        if (!in(sheet, 0, 3)) return BAD;
        if (sheets[sheet] == null) return -11;
        long best = sung(2 + sheet).bad();
        int found = NONE;
        for (int s = 0; s < last; s++) {
            for (int i = 0; i < all.size(); i++) {
                List<int[]> more = pairs(2 + sheet);
                more.add(new int[] {i, s});
                long would = new Song(last, t -> loud[t], voices()).by(2 + sheet, more).bad();
                if (would < best) {
                    best = would;
                    found = 100 * i + s;
                }
            }
        }
        return found;
    }

    int image() {
        image = new Image();
        image.last = last;
        image.echo = echo;
        image.rule = rule;
        image.loud = loud.clone();
        image.bar = bar.clone();
        image.hiss = hiss.clone();
        image.least = least.clone();
        image.voices = voices();
        return all.size();
    }

    int back() {
        if (image == null) return STATE;
        last = image.last;
        echo = image.echo;
        rule = image.rule;
        loud = image.loud.clone();
        bar = image.bar.clone();
        hiss = image.hiss.clone();
        least = image.least.clone();
        for (int i = 0; i < image.voices.length; i++) {
            all.get(i).voice = image.voices[i];
        }
        return all.size();
    }

    int count(int what) {
        int bars = 0;
        int sounds = 0;
        for (int s = 0; s < last; s++) {
            bars += bar[s];
            sounds += hiss[s];
        }
        int[] by = {all.size(), last, bars, sounds, texts.size(), tape.length(), rule, least[0] + least[1] + least[2] + least[3]};
        return in(what, 0, 7) ? by[what] : BAD;
    }

    // ---- the host

    int sheet(int sheet, int sort, int n) {
        if (!in(sheet, 0, 3) || !in(sort, -1, 2)) return BAD;
        if (sort != -1 && n > 40) return BAD;
        try {
            sheets[sheet] = sort == -1 ? null : sort == 0 ? new byte[n] : sort == 1 ? new short[n] : (Object) new int[n];
        } catch (NegativeArraySizeException e) {
            return -14;
        }
        return 1;
    }

    int cell(int sheet, int i, int v) {
        if (!in(sheet, 0, 3)) return BAD;
        Object row = sheets[sheet];
        if (row == null) return -11;
        try {
            if (row instanceof byte[]) {
                ((byte[]) row)[i] = (byte) v;
            } else if (row instanceof short[]) {
                ((short[]) row)[i] = (short) v;
            } else {
                ((int[]) row)[i] = v;
            }
        } catch (ArrayIndexOutOfBoundsException e) {
            return -12;
        }
        return 1;
    }

    int copy(int sheet, int i, int other, int j, int n) {
        if (!in(sheet, 0, 3) || !in(other, 0, 3)) return BAD;
        try {
            System.arraycopy(sheets[sheet], i, sheets[other], j, n);
        } catch (NullPointerException e) {
            return -11;
        } catch (ArrayStoreException e) {
            return -13;
        } catch (IndexOutOfBoundsException e) {
            return -12;
        }
        return n;
    }

    int singers(int sheet, int sort, int from, int n) {
        if (!in(sheet, 0, 3) || !in(sort, 0, 2) || !in(n, 0, 10)) return BAD;
        int came = 0;
        try {
            Object row = sheets[sheet];
            Object cast = sort == 0 ? (byte[]) row : sort == 1 ? (short[]) row : (Object) (int[]) row;
            if (cast == null) return -11;
            for (int k = 0; k < n; k++) {
                int a = item(cast, from + 3 * k);
                int b = item(cast, from + 3 * k + 1);
                int c = item(cast, from + 3 * k + 2);
                if (singer(a, b, c) >= 0) came++;
            }
        } catch (ClassCastException e) {
            return -13;
        } catch (ArrayIndexOutOfBoundsException e) {
            return -12;
        }
        return came;
    }

    int taken(int singer, int k) {
        if (!in(k, 0, 5)) return BAD;
        if (!in(singer, 0, all.size() - 1)) return -11;
        int[] above = {-1, 0, 0, 2, 1, 0};
        for (int kind = all.get(singer).kind; kind >= 0; kind = above[kind]) {
            if (kind == k) return all.get(singer).number;
        }
        return -13;
    }
}
