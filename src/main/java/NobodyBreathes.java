import java.util.Arrays;

/**
 * Singers who hold a chord step by step and breathe by turns, so that nobody seems to.
 * The words in capitals, here and below, are those of the document's section "Terms".
 */
public final class NobodyBreathes {
    public static final int NONE = -1, BAD = -2, STATE = -3, FULL = -4;
    public static final long NO = -4611686018427387904L;

    private static final int NOTHING = -11, OUTSIDE = -12, OTHER_SORT = -13, BELOW_ZERO = -14;

    private static final int STEPS = 48, VOICES = 4, SINGERS = 10, KINDS = 6, NUMBERS = 10, LOUDS = 10;
    private static final int TEXTS = 6, TAPE = 160, FAULTS = -100, OPEN = 5;
    private static final int SHEETS = 4, SORTS = 3, CELLS = 40;
    private static final int OFTEN = 49, ROUND_STEPS = 200, HALF_CHOIR = 5;

    private static final int WAYS = 7, BY_RULE = 0, AT_BARS = 1, FIRST_PLAN = 2, BY_FORCE = 6;

    private static final String FIRST_RULE = "must 0 ; may 8 < held ; thin 1 ;";

    private final Piece piece = new Piece();
    private final Piece kept = new Piece();
    private int keptSize = NONE;
    private final Singer[] choir = new Singer[SINGERS];
    private int size = 0;
    private final Reader reader = new Reader();
    private final Text[] written = new Text[TEXTS];
    private int texts = 0;
    private final Sheet[] rows = new Sheet[SHEETS];
    private final Course course = new Course(piece, choir);
    private final long[] pastLow = new long[ROUND_STEPS];
    private final long[] pastHigh = new long[ROUND_STEPS];

    public NobodyBreathes() {
        for (int i = 0; i < SHEETS; i++) {
            rows[i] = new Sheet();
        }
        for (int i = 0; i < FIRST_RULE.length(); i++) {
            reader.put(FIRST_RULE.charAt(i));
        }
        keepText(reader.compiled());
        reader.clear();
    }

    // ---- the piece, singers

    public int set(int what, int at, int v) {
        int was = BAD;
        if (what == 0) {
            was = change(piece.loud, at, v, LOUDS);
        } else if (what == 1) {
            was = change(piece.bar, at, v, 2);
        } else if (what == 2) {
            was = change(piece.hiss, at, v, 2);
        } else if (what == 3) {
            was = change(piece.least, at, v, 10);
        } else if (what == 4 && v >= 1 && v <= STEPS) {
            was = piece.last;
            piece.last = v;
        } else if (what == 5 && !outside(v, 6)) {
            was = piece.echo;
            piece.echo = v;
        }
        return was;
    }

    public int singer(int kind, int rest, int number) {
        int voice = rest / 1000;
        int takes = rest / 100 % 10;
        int hold = rest % 100;
        if (outside(kind, KINDS) || rest < 0 || outside(voice, VOICES) || takes < 1 || hold < 2 || hold > 40
                || outside(number, NUMBERS)) {
            return BAD;
        }
        if (size >= SINGERS) {
            return FULL;
        }
        choir[size] = newSinger(kind, hold, takes, number);
        piece.voiceOf[size] = voice;
        size++;
        return size - 1;
    }

    public int voice(int singer, int voice) {
        if (outside(singer, size)) {
            return BAD;
        }
        return change(piece.voiceOf, singer, voice, VOICES);
    }

    public int told(int singer, int often, int step, int what) {
        if (outside(singer, size) || outside(often, OFTEN) || outside(step, STEPS)) {
            return BAD;
        }
        Singer one = choir[singer];
        int loud = piece.loud[step];
        switch (what) {
            case 0: return one.kind();
            case 1: return piece.voiceOf[singer];
            case 2: return one.canHold(loud, often);
            case 3: return one.silentSteps(often);
            case 4: return truth(one.says(loud));
            case 5: return one.hold;
            default: return BAD;
        }
    }

    // ---- texts

    public int feed(int n, long bytes) {
        if (n < 1 || n > 8) {
            return BAD;
        }
        if (reader.size + n > TAPE) {
            return FULL;
        }
        for (int i = 0; i < n; i++) {
            reader.put((int) (bytes >> (8 * i)) & 255);
        }
        return reader.size;
    }

    public int text() {
        if (texts >= TEXTS) {
            return FULL;
        }
        Text found = reader.compiled();
        int answer = found == null ? FAULTS - reader.place : texts;
        keepText(found);
        reader.clear();
        return answer;
    }

    public int force(int text) {
        if (outside(text, texts)) {
            return BAD;
        }
        int was = piece.rule;
        piece.rule = text;
        return was;
    }

    // ---- ways (0 .. 6)

    public int sing(int way, int step) {
        if (outside(way, WAYS) || outside(step, piece.last)) {
            return BAD;
        }
        if (isMissing(way)) {
            return NOTHING;
        }
        perform(way, step);
        return course.now;
    }

    public int of(int way, int step, int voice) {
        if (outside(way, WAYS) || outside(step, piece.last) || outside(voice, VOICES)) {
            return BAD;
        }
        if (isMissing(way)) {
            return NOTHING;
        }
        perform(way, step);
        return course.howMany(voice);
    }

    public int wrong(int way) {
        if (outside(way, WAYS)) {
            return BAD;
        }
        if (isMissing(way)) {
            return NOTHING;
        }
        prepare(way);
        for (int s = 0; s < piece.last; s++) {
            course.advance(s, piece.loud[s]);
            int found = course.wrongHere(s);
            if (found != NONE) {
                return 1000 * s + found;
            }
        }
        return NONE;
    }

    public long bad(int way) {
        if (outside(way, WAYS) || isMissing(way)) {
            return NO;
        }
        prepare(way);
        course.weigh();
        return course.badOfAll();
    }

    public int breaths(int way, int singer) {
        if (outside(way, WAYS) || (singer != NONE && outside(singer, size))) {
            return BAD;
        }
        if (isMissing(way)) {
            return NOTHING;
        }
        perform(way, piece.last - 1);
        return singer == NONE ? course.allBreaths() : course.often[singer];
    }

    // ---- for ever, lent, lost

    public int fewest(int h, int t, int m) {
        if (h < 1 || h > 40 || t < 1 || t > 18 || m < 0 || m > 99) {
            return BAD;
        }
        return (m * (h + t) + h - 1) / h;
    }

    public int round(int way, int loud, int what) {
        if ((way != BY_RULE && way != BY_FORCE) || outside(loud, LOUDS) || outside(what, 2)) {
            return BAD;
        }
        prepare(way);
        for (int s = 0; s < ROUND_STEPS; s++) {
            course.advance(s, loud);
            pastLow[s] = course.stateOf(0, HALF_CHOIR);
            pastHigh[s] = course.stateOf(HALF_CHOIR, SINGERS);
            int earlier = earlierLike(s);
            if (earlier != NONE) {
                return what == 0 ? s : earlier;
            }
        }
        return NONE;
    }

    public long lent(int way, int singer, int voice) {
        if (outside(way, WAYS) || outside(singer, size) || outside(voice, VOICES) || isMissing(way)) {
            return NO;
        }
        prepare(way);
        course.weigh();
        long before = course.badOfAll();
        int own = piece.voiceOf[singer];
        piece.voiceOf[singer] = voice;
        long behind = course.badOfAll();
        piece.voiceOf[singer] = own;
        return behind - before;
    }

    public long lost(int way, int singer, int step) {
        if (outside(way, WAYS) || outside(singer, size) || outside(step, STEPS) || isMissing(way)) {
            return NO;
        }
        prepare(way);
        course.weigh();
        long before = course.badOfAll();
        course.lose(singer, step);
        return course.badOfAll() - before;
    }

    public int who(int sheet) {
        if (outside(sheet, SHEETS)) {
            return BAD;
        }
        if (rows[sheet].isMissing()) {
            return NOTHING;
        }
        prepare(FIRST_PLAN + sheet);
        course.weigh();
        long best = course.badOfAll();
        int found = NONE;
        for (int s = 0; s < piece.last; s++) {
            for (int i = 0; i < size; i++) {
                if (best == 0 || !course.breathesBehind(i, s)) {
                    continue;
                }
                long own = course.plan[i];
                course.plan[i] = own | (1L << s);
                long would = course.badOfAll();
                course.plan[i] = own;
                if (would < best) {
                    best = would;
                    found = 100 * i + s;
                }
            }
        }
        return found;
    }

    public int image() {
        kept.takeFrom(piece, size);
        keptSize = size;
        return size;
    }

    public int back() {
        if (keptSize == NONE) {
            return STATE;
        }
        piece.takeFrom(kept, keptSize);
        return size;
    }

    public int count(int what) {
        switch (what) {
            case 0: return size;
            case 1: return piece.last;
            case 2: return sumOf(piece.bar, piece.last);
            case 3: return sumOf(piece.hiss, piece.last);
            case 4: return texts;
            case 5: return reader.size;
            case 6: return piece.rule;
            case 7: return sumOf(piece.least, VOICES);
            default: return BAD;
        }
    }

    // ---- the host

    public int sheet(int sheet, int sort, int n) {
        if (outside(sheet, SHEETS) || sort < NONE || sort >= SORTS) {
            return BAD;
        }
        if (sort == NONE) {
            rows[sheet].become(NONE, 0);
            return 1;
        }
        if (n > CELLS) {
            return BAD;
        }
        if (n < 0) {
            return BELOW_ZERO;
        }
        rows[sheet].become(sort, n);
        return 1;
    }

    public int cell(int sheet, int i, int v) {
        if (outside(sheet, SHEETS)) {
            return BAD;
        }
        Sheet row = rows[sheet];
        if (row.isMissing()) {
            return NOTHING;
        }
        if (outside(i, row.length)) {
            return OUTSIDE;
        }
        row.put(i, v);
        return 1;
    }

    public int copy(int sheet, int i, int other, int j, int n) {
        if (outside(sheet, SHEETS) || outside(other, SHEETS)) {
            return BAD;
        }
        Sheet from = rows[sheet];
        Sheet to = rows[other];
        if (from.isMissing() || to.isMissing()) {
            return NOTHING;
        }
        if (from.sort != to.sort) {
            return OTHER_SORT;
        }
        if (!from.hasRoom(i, n) || !to.hasRoom(j, n)) {
            return OUTSIDE;
        }
        System.arraycopy(from.items, i, to.items, j, n);
        return n;
    }

    public int singers(int sheet, int sort, int from, int n) {
        if (outside(sheet, SHEETS) || outside(sort, SORTS) || n < 0 || n > SINGERS) {
            return BAD;
        }
        Sheet row = rows[sheet];
        if (!row.isMissing() && row.sort != sort) {
            return OTHER_SORT;
        }
        if (row.isMissing()) {
            return NOTHING;
        }
        int came = 0;
        for (int k = 0; k < n; k++) {
            int at = from + 3 * k;
            if (!row.hasRoom(at, 3)) {
                return OUTSIDE;
            }
            if (singer(row.items[at], row.items[at + 1], row.items[at + 2]) >= 0) {
                came++;
            }
        }
        return came;
    }

    public int taken(int singer, int k) {
        if (outside(k, KINDS)) {
            return BAD;
        }
        if (outside(singer, size)) {
            return NOTHING;
        }
        Singer one = choir[singer];
        return one.isUnder(k) ? one.number : OTHER_SORT;
    }

    // ---- helpers

    private static boolean outside(int at, int length) {
        return at < 0 || at >= length;
    }

    private static int truth(boolean is) {
        return is ? 1 : 0;
    }

    private static int change(int[] row, int at, int v, int bound) {
        if (outside(at, row.length) || outside(v, bound)) {
            return BAD;
        }
        int was = row[at];
        row[at] = v;
        return was;
    }

    private static int sumOf(int[] row, int n) {
        int sum = 0;
        for (int i = 0; i < n && i < row.length; i++) {
            sum += row[i];
        }
        return sum;
    }

    private static Singer newSinger(int kind, int hold, int takes, int number) {
        switch (kind) {
            case Soft.KIND: return new Soft(hold, takes, number);
            case Tired.KIND: return new Tired(hold, takes, number);
            case Old.KIND: return new Old(hold, takes, number);
            case Low.KIND: return new Low(hold, takes, number);
            case Cold.KIND: return new Cold(hold, takes, number);
            default: return new Singer(hold, takes, number);
        }
    }

    private void keepText(Text found) {
        if (found != null && texts < TEXTS) {
            written[texts] = found;
            texts++;
        }
    }

    private static boolean isPlan(int way) {
        return way >= FIRST_PLAN && way < FIRST_PLAN + SHEETS;
    }

    private boolean isMissing(int way) {
        return isPlan(way) && rows[way - FIRST_PLAN].isMissing();
    }

    private void prepare(int way) {
        course.choose(way, size, written[piece.rule]);
        if (isPlan(way)) {
            course.readPlan(rows[way - FIRST_PLAN]);
        }
        course.start();
    }

    private void perform(int way, int step) {
        prepare(way);
        for (int s = 0; s <= step && s < piece.last; s++) {
            course.advance(s, piece.loud[s]);
        }
    }

    private int earlierLike(int step) {
        for (int s = 0; s < step; s++) {
            if (pastLow[s] == pastLow[step] && pastHigh[s] == pastHigh[step]) {
                return s;
            }
        }
        return NONE;
    }

    /** All that AN IMAGE keeps. */
    private static final class Piece {
        final int[] loud = new int[STEPS];
        final int[] bar = new int[STEPS];
        final int[] hiss = new int[STEPS];
        final int[] least = new int[VOICES];
        final int[] voiceOf = new int[SINGERS];
        int last = 24;
        int echo = 0;
        int rule = 0;

        Piece() {
            Arrays.fill(loud, 3);
        }

        /** Of VOICES only the first so many SINGERS': those who came later stay as they are. */
        void takeFrom(Piece other, int singers) {
            System.arraycopy(other.loud, 0, loud, 0, STEPS);
            System.arraycopy(other.bar, 0, bar, 0, STEPS);
            System.arraycopy(other.hiss, 0, hiss, 0, STEPS);
            System.arraycopy(other.least, 0, least, 0, VOICES);
            for (int i = 0; i < singers && i < SINGERS; i++) {
                voiceOf[i] = other.voiceOf[i];
            }
            last = other.last;
            echo = other.echo;
            rule = other.rule;
        }
    }

    /** KIND 0; the other KINDS are under it. His VOICE stands in the Piece, because an image keeps it. */
    private static class Singer {
        final int hold;
        final int takes;
        final int number;

        Singer(int hold, int takes, int number) {
            this.hold = hold;
            this.takes = takes;
            this.number = number;
        }

        int kind() {
            return 0;
        }

        boolean isUnder(int kind) {
            return kind == 0;
        }

        /** The bound of 1 stands here alone: what a KIND takes over from the one above it is not bounded yet. */
        final int canHold(int loud, int often) {
            return Math.max(1, reach(loud, often));
        }

        int reach(int loud, int often) {
            return hold - loud;
        }

        int silentSteps(int often) {
            return takes;
        }

        boolean says(int loud) {
            return number % 2 == 0;
        }
    }

    private static class Soft extends Singer {
        static final int KIND = 1;

        Soft(int hold, int takes, int number) {
            super(hold, takes, number);
        }

        int kind() {
            return KIND;
        }

        boolean isUnder(int kind) {
            return kind == KIND || super.isUnder(kind);
        }

        int reach(int loud, int often) {
            return super.reach(loud, often) + loud / 2;
        }

        boolean says(int loud) {
            return false;
        }
    }

    private static class Tired extends Singer {
        static final int KIND = 2;

        Tired(int hold, int takes, int number) {
            super(hold, takes, number);
        }

        int kind() {
            return KIND;
        }

        boolean isUnder(int kind) {
            return kind == KIND || super.isUnder(kind);
        }

        int reach(int loud, int often) {
            return super.reach(loud, often) - often;
        }

        int silentSteps(int often) {
            return super.silentSteps(often) + truth(often >= 3);
        }
    }

    private static final class Old extends Tired {
        static final int KIND = 3;

        Old(int hold, int takes, int number) {
            super(hold, takes, number);
        }

        int kind() {
            return KIND;
        }

        boolean isUnder(int kind) {
            return kind == KIND || super.isUnder(kind);
        }

        int reach(int loud, int often) {
            return super.reach(loud, often) - number;
        }

        boolean says(int loud) {
            return loud < 5 && super.says(loud);
        }
    }

    private static final class Low extends Soft {
        static final int KIND = 4;

        Low(int hold, int takes, int number) {
            super(hold, takes, number);
        }

        int kind() {
            return KIND;
        }

        boolean isUnder(int kind) {
            return kind == KIND || super.isUnder(kind);
        }

        int reach(int loud, int often) {
            return super.reach(loud, often) + number;
        }
    }

    private static final class Cold extends Singer {
        static final int KIND = 5;

        Cold(int hold, int takes, int number) {
            super(hold, takes, number);
        }

        int kind() {
            return KIND;
        }

        boolean isUnder(int kind) {
            return kind == KIND || super.isUnder(kind);
        }

        int reach(int loud, int often) {
            return super.reach(loud, often) / 2;
        }

        int silentSteps(int often) {
            return 2 * super.silentSteps(often);
        }

        boolean says(int loud) {
            return true;
        }
    }

    /** A row of numbers of a sort; of sort NONE it is missing. */
    private static final class Sheet {
        final int[] items = new int[CELLS];
        int sort = NONE;
        int length = 0;

        boolean isMissing() {
            return sort == NONE;
        }

        void become(int newSort, int newLength) {
            sort = newSort;
            length = newLength;
            Arrays.fill(items, 0);
        }

        void put(int i, int v) {
            items[i] = sort == 0 ? (byte) v : sort == 1 ? (short) v : v;
        }

        boolean hasRoom(int at, int n) {
            return n >= 0 && n <= length && at >= 0 && at <= length - n;
        }
    }

    /** A TEXT as the Reader leaves it: its three E one behind the other, operands ahead of what joins them. */
    private static final class Text {
        static final int HELD = 0, LOUD = 1, STEP = 2, SINGING = 3, BESIDE = 4, TIRED = 5, NAMES = 6;
        /** In each of OPEN + 1 nested E at most five operands wait for what joins them. */
        static final int STACK = 5 * (OPEN + 1) + 2;

        final int[] code;
        final int[] ends;
        final int[] stack = new int[STACK];

        Text(int[] code, int[] ends) {
            this.code = code;
            this.ends = ends;
        }

        int valueOf(int part, int[] heard) {
            if (outside(part, ends.length)) {
                return 0;
            }
            int from = part == 0 ? 0 : ends[part - 1];
            int to = ends[part];
            int top = 0;
            for (int at = from; at < to && at < code.length; at++) {
                int what = code[at] % Reader.VALUES;
                int number = code[at] / Reader.VALUES;
                if (what == Reader.NUMBER && top < STACK) {
                    stack[top] = number;
                    top++;
                } else if (what == Reader.NAME && top < STACK && number < heard.length) {
                    stack[top] = heard[number];
                    top++;
                } else if (what == Reader.NOT && top >= 1) {
                    stack[top - 1] = truth(stack[top - 1] == 0);
                } else if (what == Reader.MINUS && top >= 1) {
                    stack[top - 1] = -stack[top - 1];
                } else if (top >= 2) {
                    stack[top - 2] = joined(what, stack[top - 2], stack[top - 1]);
                    top--;
                }
            }
            return stack[0];
        }

        private static int joined(int what, int left, int right) {
            switch (what) {
                case Reader.OR: return left != 0 || right != 0 ? 1 : 0;
                case Reader.AND: return left != 0 && right != 0 ? 1 : 0;
                case '<': return left < right ? 1 : 0;
                case '=': return left == right ? 1 : 0;
                case '+': return left + right;
                case '-': return left - right;
                default: return left * right;
            }
        }
    }

    /** THE TAPE, and who reads a TEXT from it. */
    private static final class Reader {
        /** KEYS are numbered as they stand in WORDS, those of the parts first; all behind them are NAMES. */
        static final int MUST = 0, MAY = 1, THIN = 2, PARTS = 3, OR = 3, AND = 4, NOT = 5, NAME = 6;
        static final int NUMBER = 7, MINUS = 8, END = 9, NO_TOKEN = 10;
        /** A place of a Text's code holds one of these, or a sign, and so many times a value. */
        static final int VALUES = 64;
        static final String SIGNS = "();+-*<=";
        static final String WORDS = "must   may    thin   or     and    not    held   loud   step   singingbeside tired  ";
        static final int WORD_COUNT = 12, WIDTH = 7, DIGITS = 4;

        private final char[] tape = new char[TAPE];
        private final int[] code = new int[TAPE];
        private int size = 0;
        private int next;
        private int place;
        private int token;
        private int value;
        private int length;

        void put(int sign) {
            if (size < TAPE) {
                tape[size] = (char) sign;
                size++;
            }
        }

        void clear() {
            size = 0;
        }

        /** Null by a FAULT, which is at place then: no method goes on behind the first TOKEN that can't stand. */
        Text compiled() {
            next = 0;
            length = 0;
            advance();
            int[] ends = new int[PARTS];
            for (int key = 0; key < PARTS; key++) {
                if (!pass(key) || !either(0) || !pass(';')) {
                    return null;
                }
                ends[key] = length;
            }
            return token == END ? new Text(Arrays.copyOf(code, length), ends) : null;
        }

        private boolean either(int open) {
            boolean fine = both(open);
            for (int k = 0; k < TAPE && fine && token == OR; k++) {
                advance();
                fine = both(open);
                emit(OR, 0);
            }
            return fine;
        }

        private boolean both(int open) {
            boolean fine = negated(open);
            for (int k = 0; k < TAPE && fine && token == AND; k++) {
                advance();
                fine = negated(open);
                emit(AND, 0);
            }
            return fine;
        }

        private boolean negated(int open) {
            if (token == NOT) {
                return enter(open) && negated(open + 1) && emit(NOT, 0);
            }
            if (!sum(open)) {
                return false;
            }
            if (token != '<' && token != '=') {
                return true;
            }
            int sign = token;
            advance();
            return sum(open) && emit(sign, 0);
        }

        private boolean sum(int open) {
            boolean fine = product(open);
            for (int k = 0; k < TAPE && fine && (token == '+' || token == '-'); k++) {
                int sign = token;
                advance();
                fine = product(open);
                emit(sign, 0);
            }
            return fine;
        }

        private boolean product(int open) {
            boolean fine = one(open);
            for (int k = 0; k < TAPE && fine && token == '*'; k++) {
                advance();
                fine = one(open);
                emit('*', 0);
            }
            return fine;
        }

        private boolean one(int open) {
            if (token == NUMBER || token == NAME) {
                emit(token, value);
                advance();
                return true;
            }
            if (token == '-') {
                return enter(open) && one(open + 1) && emit(MINUS, 0);
            }
            return token == '(' && enter(open) && either(open + 1) && pass(')');
        }

        /** Goes behind a ( or not or - , unless too many are open. */
        private boolean enter(int open) {
            if (open >= OPEN) {
                return false;
            }
            advance();
            return true;
        }

        private boolean pass(int asked) {
            if (token != asked) {
                return false;
            }
            advance();
            return true;
        }

        private boolean emit(int what, int number) {
            if (length < TAPE) {
                code[length] = what + VALUES * number;
                length++;
            }
            return true;
        }

        private void advance() {
            int at = next;
            for (int k = 0; k < TAPE && at < size && (tape[at] == ' ' || tape[at] == 10); k++) {
                at++;
            }
            place = at;
            next = at;
            token = END;
            if (at < size) {
                if (tape[at] >= 'a' && tape[at] <= 'z') {
                    readWord();
                } else if (tape[at] >= '0' && tape[at] <= '9') {
                    readNumber();
                } else {
                    readSign();
                }
            }
        }

        private void readWord() {
            for (int k = 0; k < TAPE && next < size && tape[next] >= 'a' && tape[next] <= 'z'; k++) {
                next++;
            }
            token = NO_TOKEN;
            for (int w = 0; w < WORD_COUNT; w++) {
                if (isWord(w)) {
                    token = Math.min(w, NAME);
                    value = w - NAME;
                }
            }
        }

        private boolean isWord(int word) {
            int letters = next - place;
            for (int k = 0; k < WIDTH; k++) {
                char asked = WORDS.charAt(word * WIDTH + k);
                char stands = k < letters ? tape[place + k] : ' ';
                if (asked != stands) {
                    return false;
                }
            }
            return letters <= WIDTH;
        }

        private void readNumber() {
            value = 0;
            for (int k = 0; k < TAPE && next < size && tape[next] >= '0' && tape[next] <= '9'; k++) {
                value = 10 * value + tape[next] - '0';
                next++;
            }
            token = next - place > DIGITS ? NO_TOKEN : NUMBER;
        }

        private void readSign() {
            token = SIGNS.indexOf(tape[place]) >= 0 ? tape[place] : NO_TOKEN;
            next = place + 1;
        }
    }

    /** One WAY, sung STEP by STEP; what it tells is always of the STEP that was sung last. */
    private static final class Course {
        private final Piece piece;
        private final Singer[] choir;
        private final int[] heard = new int[Text.NAMES];
        private final int[] held = new int[SINGERS];
        private final int[] silent = new int[SINGERS];
        private final int[] often = new int[SINGERS];
        private final long[] plan = new long[SINGERS];
        private final int[] members = new int[VOICES];
        private final int[] thinFor = new int[VOICES];
        private final int[] worth = new int[STEPS];
        private int way;
        private int size;
        private Text rule;
        private int now;
        private int gone;
        private int goneFrom;

        Course(Piece piece, Singer[] choir) {
            this.piece = piece;
            this.choir = choir;
        }

        void choose(int newWay, int newSize, Text newRule) {
            way = newWay;
            size = newSize;
            rule = newRule;
            gone = NONE;
        }

        void lose(int singer, int step) {
            gone = singer;
            goneFrom = step;
        }

        void readPlan(Sheet sheet) {
            Arrays.fill(plan, 0L);
            for (int at = 0; at + 1 < sheet.length; at += 2) {
                int singer = sheet.items[at];
                int step = sheet.items[at + 1];
                if (!outside(singer, size) && !outside(step, STEPS)) {
                    plan[singer] |= 1L << step;
                }
            }
        }

        /** All are taken to have sung ahead of STEP 0: so everybody hears all others there. */
        void start() {
            Arrays.fill(held, 0);
            Arrays.fill(silent, 0);
            Arrays.fill(often, 0);
            Arrays.fill(members, 0);
            Arrays.fill(thinFor, 0);
            for (int i = 0; i < size; i++) {
                members[piece.voiceOf[i]] |= 1 << i;
            }
            now = (1 << size) - 1;
        }

        void advance(int step, int loud) {
            int sings = 0;
            for (int i = 0; i < size; i++) {
                if (i == gone && step >= goneFrom) {
                    continue;
                }
                if (silent[i] == 0 && begins(i, step, loud)) {
                    silent[i] = choir[i].silentSteps(often[i]);
                    often[i]++;
                    held[i] = 0;
                }
                if (silent[i] > 0) {
                    silent[i]--;
                } else {
                    held[i]++;
                    sings |= 1 << i;
                }
            }
            now = sings;
            for (int v = 0; v < VOICES; v++) {
                thinFor[v] = howMany(v) < piece.least[v] ? thinFor[v] + 1 : 0;
            }
        }

        private boolean begins(int i, int step, int loud) {
            if (way == AT_BARS) {
                return step < STEPS && piece.bar[step] == 1;
            }
            if (isPlan(way)) {
                return step < STEPS && (plan[i] >> step) % 2 == 1;
            }
            return held[i] >= choir[i].canHold(loud, often[i]) || (way == BY_RULE && ruleTells(i, step, loud));
        }

        private boolean ruleTells(int i, int step, int loud) {
            int voice = piece.voiceOf[i];
            int others = Integer.bitCount(now & members[voice] & ~(1 << i));
            int beside = truth(isSilent(i - 1)) + truth(isSilent(i + 1));
            listen(step, loud);
            heard[Text.HELD] = held[i];
            heard[Text.SINGING] = others;
            heard[Text.BESIDE] = beside;
            heard[Text.TIRED] = often[i];
            return rule.valueOf(Reader.MUST, heard) != 0
                    || (others >= piece.least[voice] && beside == 0 && rule.valueOf(Reader.MAY, heard) != 0);
        }

        private boolean isSilent(int i) {
            return !outside(i, size) && (now >> i) % 2 == 0;
        }

        private void listen(int step, int loud) {
            Arrays.fill(heard, 0);
            heard[Text.LOUD] = loud;
            heard[Text.STEP] = step;
        }

        int howMany(int voice) {
            return Integer.bitCount(now & members[voice]);
        }

        private boolean isHeard(int voice) {
            return thinFor[voice] > piece.echo;
        }

        int allBreaths() {
            return sumOf(often, size);
        }

        /** What a round looks at; held stays below 128 and silent below 32, so five SINGERS have room in a long. */
        long stateOf(int from, int to) {
            long state = 0;
            for (int i = from; i < to && i < size; i++) {
                state = (state << 12) + (held[i] << 5) + silent[i];
            }
            return state;
        }

        int wrongHere(int step) {
            int loud = piece.loud[step];
            for (int i = 0; i < size; i++) {
                if (!isSilent(i) && held[i] > choir[i].canHold(loud, often[i])) {
                    return 100 + i;
                }
            }
            for (int i = 0; i + 1 < size; i++) {
                if (isSilent(i) && isSilent(i + 1)) {
                    return 200 + i;
                }
            }
            for (int v = 0; v < VOICES; v++) {
                if (isHeard(v)) {
                    return 300 + v;
                }
            }
            return piece.hiss[step] == 1 && !isSaid(loud) ? 400 : NONE;
        }

        private boolean isSaid(int loud) {
            int sayers = 0;
            for (int i = 0; i < size; i++) {
                if (!isSilent(i) && choir[i].says(loud)) {
                    sayers++;
                }
            }
            return sayers >= 1 && sayers <= 3;
        }

        /** What thin tells does not hang on who sings: so it is asked once for many songs. */
        void weigh() {
            for (int s = 0; s < piece.last; s++) {
                listen(s, piece.loud[s]);
                worth[s] = Math.max(0, Math.min(99, rule.valueOf(Reader.THIN, heard)));
            }
        }

        long badOfAll() {
            start();
            long sum = 0;
            for (int s = 0; s < piece.last; s++) {
                advance(s, piece.loud[s]);
                for (int v = 0; v < VOICES; v++) {
                    if (isHeard(v)) {
                        sum += worth[s] * (piece.least[v] - howMany(v));
                    }
                }
            }
            return sum;
        }

        /** Only a breath more that comes ahead of a told one can make anything less thin: by taking that one away. */
        boolean breathesBehind(int singer, int step) {
            return (plan[singer] >> step) > 1L;
        }
    }
}
