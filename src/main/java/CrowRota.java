import java.util.Arrays;
import java.util.NoSuchElementException;

/** A field of cells, scarecrows on a rota, and crows who learn by yesterday. The document is ../shared/DOC.md. */
public final class CrowRota {
    public static final int NONE = -1;

    private static final int NOT_SO = -2;
    private static final long ERROR = -9223372036854775808L;

    private static final int CELLS = 30;
    private static final int SCARES = 6;
    private static final int HOURS = 12;
    private static final int LAST_DAY = 999;
    private static final int CROP_LINES = 16;
    private static final int FLAPS = 10;
    private static final int WINDS = 14;
    private static final int KNOTS = 64;
    private static final int OPEN = 8;
    private static final int TAPE = 700;
    private static final int STEPS = 20;
    private static final int NOTES = 24;
    private static final int NOTE_HOURS = 48;
    private static final int KEEPING_DAYS = 3;
    private static final int DAYS = 9;
    private static final int DRAWS = 10;
    private static final int HIGHEST = 99;

    private static final int SEE = 0;
    private static final int EAT = 1;
    private static final int PAY = 2;
    private static final int LAWS = 3;

    /** What a TEXT tells; it stays as it is until the next one. */
    private static final class Plan {
        int lines;
        int wide;
        int high;
        final int[] crop = new int[CELLS];
        int scares;
        final int[] name = new int[SCARES];
        final int[] at = new int[SCARES];
        final int[] sight = new int[SCARES];
        final int[] pay = new int[SCARES];
        final int[] grade = new int[SCARES];
        final int[] rota = new int[SCARES];
        int flaps;
        int winds;
        final int[] wind = new int[WINDS];
        int most;
        int crows;
        int gust;
        int knots;
        final Law[] laws = new Law[LAWS];

        Plan() {
            for (int rule = 0; rule < LAWS; rule++) {
                laws[rule] = new Law();
            }
            clear();
        }

        private void clear() {
            lines = 0;
            wide = 5;
            high = 4;
            Arrays.fill(crop, 10);
            scares = 0;
            flaps = 0;
            winds = 0;
            most = HOURS;
            crows = 5;
            gust = 10;
            knots = 0;
            for (int rule = 0; rule < LAWS; rule++) {
                laws[rule].size = 0;
            }
        }

        int cells() {
            return wide * high;
        }

        boolean hasCell(int cell) {
            return cell >= 0 && cell < cells();
        }

        boolean hasScare(int scare) {
            return scare >= 0 && scare < scares;
        }

        int windOf(int day) {
            return day >= 0 && day < winds ? wind[day] : 0;
        }

        /** The number of the SCARE with these letters. */
        int find(int letters) {
            for (int i = 0; i < scares; i++) {
                if (name[i] == letters) {
                    return i;
                }
            }
            return NONE;
        }

        int distance(int from, int to) {
            if (wide < 1) {
                return 0;
            }
            return Math.abs(from % wide - to % wide) + Math.abs(from / wide - to / wide);
        }
    }

    /** An E, as what is worked out one behind another on a stack; without any it isn't told. */
    private static final class Law {
        static final int NUMBER = 0;
        static final int NAME = 1;
        static final int NOT = 2;
        static final int OR = 3;
        static final int AND = 4;
        static final int LESS = 5;
        static final int AT_MOST = 6;
        static final int EQUAL = 7;
        static final int UNEQUAL = 8;
        static final int MORE = 9;
        static final int AT_LEAST = 10;
        static final int PLUS = 11;
        static final int MINUS = 12;
        static final int TIMES = 13;
        static final int BY = 14;

        private static final long BOUND = 1000000000000L;

        int size;
        private final int[] kind = new int[KNOTS];
        private final int[] value = new int[KNOTS];

        void add(int newKind, int newValue) {
            if (size < KNOTS) {
                kind[size] = newKind;
                value[size] = newValue;
                size++;
            }
        }

        /** The E's value with these NAMES, or ERROR (as well if it isn't told). */
        long worth(long[] names, long[] stack) {
            int top = 0;
            for (int k = 0; k < size; k++) {
                int now = kind[k];
                if (now == NUMBER || now == NAME) {
                    int given = value[k];
                    if (top >= stack.length || now == NAME && (given < 0 || given >= names.length)) {
                        return ERROR;
                    }
                    stack[top] = now == NUMBER ? given : names[given];
                    top++;
                } else if (now == NOT) {
                    if (top < 1) {
                        return ERROR;
                    }
                    stack[top - 1] = stack[top - 1] == 0 ? 1 : 0;
                } else {
                    if (top < 2) {
                        return ERROR;
                    }
                    long joined = join(now, stack[top - 2], stack[top - 1]);
                    if (joined > BOUND || joined < -BOUND) {
                        return ERROR;
                    }
                    top--;
                    stack[top - 1] = joined;
                }
            }
            return top == 1 ? stack[0] : ERROR;
        }

        private static long join(int sign, long left, long right) {
            switch (sign) {
                case PLUS:
                    return left + right;
                case MINUS:
                    return left - right;
                case TIMES:
                    // looked at ahead, as a product of two bounded values may be above a long
                    return left != 0 && Math.abs(right) > BOUND / Math.abs(left) ? ERROR : left * right;
                case BY:
                    return right == 0 ? ERROR : left / right;
                default:
                    return holds(sign, left, right) ? 1 : 0;
            }
        }

        private static boolean holds(int sign, long left, long right) {
            switch (sign) {
                case OR:
                    return left != 0 || right != 0;
                case AND:
                    return left != 0 && right != 0;
                case LESS:
                    return left < right;
                case AT_MOST:
                    return left <= right;
                case EQUAL:
                    return left == right;
                case UNEQUAL:
                    return left != right;
                case MORE:
                    return left > right;
                default:
                    return left >= right;
            }
        }
    }

    /** The TEXT's TOKENS, one behind another. */
    private static final class Tokens {
        static final int END = 0;
        static final int BAD = 1;
        static final int NUMBER = 2;
        static final int NAME = 3;
        static final int WORD = 4;
        static final int SIGN = 5;

        static final int FIELD = 0;
        static final int CROP = 1;
        static final int SCARE = 2;
        static final int FLAP = 3;
        static final int MOST = 4;
        static final int CROWS = 5;
        static final int GUST = 6;
        static final int SEED = 7;
        static final int LAW = 8;
        static final int RULES = 9;
        static final int OR = 12;
        static final int AND = 13;
        static final int NOT = 14;
        static final int NAMES = 15;
        static final int WIND = 17;

        static final int SEMICOLON = 100;
        static final int OPENED = 101;
        static final int CLOSED = 102;

        // in the order of the constants above; RULES as SEE, EAT, PAY; NAMES as in Hours
        private static final String LANGUAGE =
            "field crop scare flap most crows gust seed law see eat pay or and not sight far wind hour grade ripe date";
        private static final int WORDS = 22;
        private static final int LETTERS = 6;
        private static final int ENOUGH = 1000000;

        final int[] tape = new int[TAPE];
        private final int[] words = new int[WORDS];
        private int length;
        private int next;
        int kind;
        int value;
        int place;

        Tokens() {
            int word = 0;
            int letters = 0;
            int packed = 0;
            for (int i = 0; i <= LANGUAGE.length() && word < WORDS; i++) {
                if (i < LANGUAGE.length() && LANGUAGE.charAt(i) != ' ') {
                    packed = pack(packed, letters, LANGUAGE.charAt(i));
                    letters++;
                } else {
                    words[word] = packed;
                    word++;
                    letters = 0;
                    packed = 0;
                }
            }
        }

        /** One letter more, 5 bits each, the first one highest of six. */
        private static int pack(int packed, int letters, int letter) {
            return letters < LETTERS ? packed | (letter - 'a' + 1) << 5 * (LETTERS - 1 - letters) : packed;
        }

        void start(int newLength) {
            length = Math.min(newLength, TAPE);
            next = 0;
            step();
        }

        void step() {
            while (next < length && (tape[next] == 10 || tape[next] == 32)) {
                next++;
            }
            place = next;
            value = 0;
            if (next >= length) {
                kind = END;
            } else if (isLetter(next)) {
                readWord();
            } else if (isDigit(next)) {
                readNumber();
            } else {
                readSign();
            }
        }

        boolean isSign(int sign) {
            return kind == SIGN && value == sign;
        }

        boolean isWord(int word) {
            return kind == WORD && value == word;
        }

        private boolean isLetter(int at) {
            return at < length && tape[at] >= 'a' && tape[at] <= 'z';
        }

        private boolean isDigit(int at) {
            return at < length && tape[at] >= '0' && tape[at] <= '9';
        }

        private void readWord() {
            int packed = 0;
            int letters = 0;
            for (; next < length && isLetter(next); next++) {
                packed = pack(packed, letters, tape[next]);
                letters++;
            }
            kind = letters > LETTERS ? BAD : NAME;
            value = packed;
            for (int word = 0; word < WORDS && kind == NAME; word++) {
                if (words[word] == packed) {
                    kind = WORD;
                    value = word;
                }
            }
        }

        private void readNumber() {
            kind = NUMBER;
            for (; next < length && isDigit(next); next++) {
                // any number of digits may come: beyond ENOUGH all are too much alike
                value = Math.min(ENOUGH, value * 10 + tape[next] - '0');
            }
        }

        private void readSign() {
            int sign = tape[next];
            next++;
            int behind = next < length ? tape[next] : 0;
            value = single(sign);
            if (sign == '<' && behind == '=') {
                value = Law.AT_MOST;
                next++;
            } else if (sign == '<' && behind == '>') {
                value = Law.UNEQUAL;
                next++;
            } else if (sign == '>' && behind == '=') {
                value = Law.AT_LEAST;
                next++;
            }
            kind = value == NONE ? BAD : SIGN;
        }

        private static int single(int sign) {
            switch (sign) {
                case ';':
                    return SEMICOLON;
                case '(':
                    return OPENED;
                case ')':
                    return CLOSED;
                case '<':
                    return Law.LESS;
                case '=':
                    return Law.EQUAL;
                case '>':
                    return Law.MORE;
                case '+':
                    return Law.PLUS;
                case '-':
                    return Law.MINUS;
                case '*':
                    return Law.TIMES;
                case '/':
                    return Law.BY;
                default:
                    return NONE;
            }
        }
    }

    /** Reads a TEXT from the TAPE into a Plan, up to the first FAULT. Its functions answer whether all was right. */
    private static final class Reader {
        private static final int MISPLACED = 1;
        private static final int TOO_MUCH = 2;
        private static final int TOLD = 3;
        private static final int NOT_AHEAD = 4;

        final Tokens tokens = new Tokens();
        private Plan plan;
        private int toldWords;
        private int toldCells;
        private int cropLines;
        private boolean cells;
        private int rule;
        int fault;
        int faultPlace = NONE;

        void start(Plan into, int length) {
            plan = into;
            plan.clear();
            toldWords = 0;
            toldCells = 0;
            cropLines = 0;
            cells = false;
            fault = 0;
            faultPlace = NONE;
            tokens.start(length);
        }

        boolean atEnd() {
            return tokens.kind == Tokens.END;
        }

        private boolean fail(int number) {
            fault = number;
            faultPlace = tokens.place;
            return false;
        }

        boolean readLine() {
            if (tokens.kind != Tokens.WORD) {
                return fail(MISPLACED);
            }
            boolean right;
            switch (tokens.value) {
                case Tokens.FIELD:
                    right = readField();
                    break;
                case Tokens.CROP:
                    right = readCrop();
                    break;
                case Tokens.SCARE:
                    right = readScare();
                    break;
                case Tokens.FLAP:
                    right = readFlap();
                    break;
                case Tokens.WIND:
                    right = readWind();
                    break;
                case Tokens.LAW:
                    right = readLaw();
                    break;
                default:
                    right = readSingle(tokens.value);
            }
            if (!right) {
                return false;
            }
            if (!tokens.isSign(Tokens.SEMICOLON)) {
                return fail(MISPLACED);
            }
            tokens.step();
            plan.lines++;
            return true;
        }

        /** Whether the TOKEN is a number that may come here; it isn't taken. */
        private boolean isNumber(int least, int highest) {
            if (tokens.kind != Tokens.NUMBER) {
                return fail(MISPLACED);
            }
            if (tokens.value < least || tokens.value > highest) {
                return fail(TOO_MUCH);
            }
            return true;
        }

        private int take() {
            int taken = tokens.value;
            tokens.step();
            return taken;
        }

        /** Whether a word that may be told once comes for the first time; it is taken then. */
        private boolean isFirst(int word) {
            if ((toldWords >> word & 1) != 0) {
                return fail(TOLD);
            }
            toldWords |= 1 << word;
            return true;
        }

        private boolean readField() {
            if (!isFirst(Tokens.FIELD)) {
                return false;
            }
            if (cells) {
                return fail(NOT_AHEAD);
            }
            tokens.step();
            if (!isNumber(1, 6)) {
                return false;
            }
            plan.wide = take();
            if (!isNumber(1, 5)) {
                return false;
            }
            plan.high = take();
            return true;
        }

        private boolean readCrop() {
            if (cropLines >= CROP_LINES) {
                return fail(TOO_MUCH);
            }
            cropLines++;
            cells = true;
            tokens.step();
            if (!isNumber(0, plan.wide - 1)) {
                return false;
            }
            int x = take();
            if (!isNumber(0, plan.high - 1)) {
                return false;
            }
            int cell = tokens.value * plan.wide + x;
            if ((toldCells >> cell & 1) != 0) {
                return fail(TOLD);
            }
            toldCells |= 1 << cell;
            tokens.step();
            if (!isNumber(0, HIGHEST)) {
                return false;
            }
            plan.crop[cell] = take();
            return true;
        }

        private boolean readScare() {
            int scare = plan.scares;
            if (scare >= SCARES) {
                return fail(TOO_MUCH);
            }
            cells = true;
            tokens.step();
            if (tokens.kind != Tokens.NAME) {
                return fail(MISPLACED);
            }
            if (plan.find(tokens.value) != NONE) {
                return fail(TOLD);
            }
            plan.name[scare] = take();
            if (!isNumber(0, plan.wide - 1)) {
                return false;
            }
            int x = take();
            if (!isNumber(0, plan.high - 1)) {
                return false;
            }
            plan.at[scare] = take() * plan.wide + x;
            plan.rota[scare] = 0;
            plan.scares++;
            return readTraits(scare);
        }

        private boolean readTraits(int scare) {
            if (!isNumber(0, 9)) {
                return false;
            }
            plan.sight[scare] = take();
            if (!isNumber(0, 9)) {
                return false;
            }
            plan.pay[scare] = take();
            if (!isNumber(0, 9)) {
                return false;
            }
            plan.grade[scare] = take();
            return true;
        }

        private boolean readFlap() {
            if (plan.flaps >= FLAPS) {
                return fail(TOO_MUCH);
            }
            plan.flaps++;
            tokens.step();
            if (tokens.kind != Tokens.NAME) {
                return fail(MISPLACED);
            }
            int scare = plan.find(tokens.value);
            if (scare == NONE) {
                return fail(NOT_AHEAD);
            }
            tokens.step();
            if (!isNumber(0, HOURS - 1)) {
                return false;
            }
            int first = take();
            if (!isNumber(first, HOURS - 1)) {
                return false;
            }
            int last = take();
            plan.rota[scare] |= (1 << last + 1) - (1 << first);
            return true;
        }

        private boolean readWind() {
            if (plan.winds >= WINDS) {
                return fail(TOO_MUCH);
            }
            tokens.step();
            if (!isNumber(0, 9)) {
                return false;
            }
            plan.wind[plan.winds] = take();
            plan.winds++;
            return true;
        }

        /** A line of one number that is told once. */
        private boolean readSingle(int word) {
            if (word != Tokens.MOST && word != Tokens.CROWS && word != Tokens.GUST && word != Tokens.SEED) {
                return fail(MISPLACED);
            }
            if (!isFirst(word)) {
                return false;
            }
            tokens.step();
            if (!isNumber(0, highestOf(word))) {
                return false;
            }
            int number = take();
            // nothing in the document asks for the seed
            if (word == Tokens.MOST) {
                plan.most = number;
            } else if (word == Tokens.CROWS) {
                plan.crows = number;
            } else if (word == Tokens.GUST) {
                plan.gust = number;
            }
            return true;
        }

        private static int highestOf(int word) {
            switch (word) {
                case Tokens.MOST:
                    return HOURS;
                case Tokens.CROWS:
                    return HIGHEST;
                case Tokens.GUST:
                    return 10;
                default:
                    return 99999;
            }
        }

        private boolean readLaw() {
            tokens.step();
            int word = tokens.value;
            if (tokens.kind != Tokens.WORD || word < Tokens.RULES || word >= Tokens.RULES + LAWS) {
                return fail(MISPLACED);
            }
            if (!isFirst(word)) {
                return false;
            }
            rule = word - Tokens.RULES;
            tokens.step();
            return readEither(0);
        }

        /** Takes a KNOT of the E, if it isn't one too many. */
        private boolean takeKnot() {
            if (plan.knots >= KNOTS) {
                return fail(TOO_MUCH);
            }
            plan.knots++;
            tokens.step();
            return true;
        }

        private boolean emit(int kind, int value) {
            plan.laws[rule].add(kind, value);
            return true;
        }

        private boolean readEither(int open) {
            if (!readAll(open)) {
                return false;
            }
            for (int turn = 0; turn <= KNOTS && tokens.isWord(Tokens.OR); turn++) {
                if (!takeKnot() || !readAll(open) || !emit(Law.OR, 0)) {
                    return false;
                }
            }
            return true;
        }

        private boolean readAll(int open) {
            if (!readTruth(open)) {
                return false;
            }
            for (int turn = 0; turn <= KNOTS && tokens.isWord(Tokens.AND); turn++) {
                if (!takeKnot() || !readTruth(open) || !emit(Law.AND, 0)) {
                    return false;
                }
            }
            return true;
        }

        private boolean readTruth(int open) {
            int nots = 0;
            for (; nots <= KNOTS && tokens.isWord(Tokens.NOT); nots++) {
                if (!takeKnot()) {
                    return false;
                }
            }
            if (!readCompared(open)) {
                return false;
            }
            for (int turn = 0; turn < nots; turn++) {
                emit(Law.NOT, 0);
            }
            return true;
        }

        private boolean readCompared(int open) {
            if (!readSum(open)) {
                return false;
            }
            int sign = tokens.value;
            if (tokens.kind != Tokens.SIGN || sign < Law.LESS || sign > Law.AT_LEAST) {
                return true;
            }
            return takeKnot() && readSum(open) && emit(sign, 0);
        }

        private boolean readSum(int open) {
            if (!readProduct(open)) {
                return false;
            }
            for (int turn = 0; turn <= KNOTS && (tokens.isSign(Law.PLUS) || tokens.isSign(Law.MINUS)); turn++) {
                int sign = tokens.value;
                if (!takeKnot() || !readProduct(open) || !emit(sign, 0)) {
                    return false;
                }
            }
            return true;
        }

        private boolean readProduct(int open) {
            if (!readPart(open)) {
                return false;
            }
            for (int turn = 0; turn <= KNOTS && (tokens.isSign(Law.TIMES) || tokens.isSign(Law.BY)); turn++) {
                int sign = tokens.value;
                if (!takeKnot() || !readPart(open) || !emit(sign, 0)) {
                    return false;
                }
            }
            return true;
        }

        private boolean readPart(int open) {
            int value = tokens.value;
            if (tokens.kind == Tokens.NUMBER) {
                return isNumber(0, 9999) && takeKnot() && emit(Law.NUMBER, value);
            }
            if (tokens.kind == Tokens.WORD && value >= Tokens.NAMES) {
                return takeKnot() && emit(Law.NAME, value - Tokens.NAMES);
            }
            if (!tokens.isSign(Tokens.OPENED)) {
                return fail(MISPLACED);
            }
            if (open >= OPEN) {
                return fail(TOO_MUCH);
            }
            tokens.step();
            if (!readEither(open + 1)) {
                return false;
            }
            if (!tokens.isSign(Tokens.CLOSED)) {
                return fail(MISPLACED);
            }
            tokens.step();
            return true;
        }
    }

    /** All that goes on in the field. */
    private static final class State {
        int day;
        int hour;
        final int[] crop = new int[CELLS];
        final int[] seen = new int[HOURS];
        final int[] rota = new int[SCARES];
        final int[] grade = new int[SCARES];
        final int[] flapped = new int[SCARES];
        int strikes;
        int eaten;
        int spent;
        int scared;

        void begin(Plan plan) {
            day = 0;
            hour = 0;
            for (int cell = 0; cell < CELLS; cell++) {
                // 0 beyond the field, so that no sum or set of CELLS has to look for its end
                crop[cell] = plan.hasCell(cell) ? plan.crop[cell] : 0;
            }
            System.arraycopy(plan.rota, 0, rota, 0, SCARES);
            System.arraycopy(plan.grade, 0, grade, 0, SCARES);
            Arrays.fill(seen, 0);
            Arrays.fill(flapped, 0);
            strikes = 0;
            eaten = 0;
            spent = 0;
            scared = 0;
        }

        void copy(State other) {
            day = other.day;
            hour = other.hour;
            System.arraycopy(other.crop, 0, crop, 0, CELLS);
            System.arraycopy(other.seen, 0, seen, 0, HOURS);
            System.arraycopy(other.rota, 0, rota, 0, SCARES);
            System.arraycopy(other.grade, 0, grade, 0, SCARES);
            System.arraycopy(other.flapped, 0, flapped, 0, SCARES);
            strikes = other.strikes;
            eaten = other.eaten;
            spent = other.spent;
            scared = other.scared;
        }

        /** As the other one is, but with nothing EATEN, SPENT, SCARED yet. */
        void follow(State other) {
            copy(other);
            eaten = 0;
            spent = 0;
            scared = 0;
        }

        boolean onRota(int scare) {
            return (rota[scare] >> hour & 1) != 0;
        }

        boolean onStrike(int scare) {
            return (strikes >> scare & 1) != 0;
        }

        /** CELLS (bits) with CROP above 0. */
        int ripe() {
            int bits = 0;
            for (int cell = 0; cell < CELLS; cell++) {
                if (crop[cell] > 0) {
                    bits |= 1 << cell;
                }
            }
            return bits;
        }

        int cropOf(int bits) {
            int sum = 0;
            for (int cell = 0; cell < CELLS; cell++) {
                if ((bits >> cell & 1) != 0) {
                    sum += crop[cell];
                }
            }
            return sum;
        }

        void tick() {
            hour++;
            if (hour >= HOURS) {
                hour = 0;
                day++;
                Arrays.fill(flapped, 0);
            }
        }
    }

    /** What is otherwise in HOURS that are only tried. */
    private static final class Twist {
        boolean bold;
        int gone;
        int sightMore;
        boolean allFlap;
        boolean allHours;
        boolean drawn;
        int today;
        final int[] winds = new int[DAYS];

        void clear() {
            bold = false;
            gone = 0;
            sightMore = 0;
            allFlap = false;
            allHours = false;
            drawn = false;
        }
    }

    /** How HOURS go by, for any State of a Plan. */
    private static final class Hours {
        static final int FOR_PAY = 1;
        static final int FOR_NOTHING = 2;

        private static final int SIGHT = 0;
        private static final int FAR = 1;
        private static final int WIND = 2;
        private static final int HOUR = 3;
        private static final int GRADE = 4;
        private static final int RIPE = 5;
        private static final int DATE = 6;

        private static final int MEMO = KEEPING_DAYS * HOURS * SCARES * CELLS;

        Plan plan;
        final Twist twist = new Twist();
        private final long[] names = new long[7];
        private final long[] stack = new long[KNOTS];
        // of an HOUR, SCARE and CELL: the CROP and whether it was SEEN with it (KEEPING asks that very often)
        private final int[] memo = new int[MEMO];
        private boolean remembering;
        private int memoRow = NONE;

        Hours(Plan first) {
            plan = first;
        }

        void remember(boolean is) {
            remembering = is;
            memoRow = NONE;
            if (is) {
                Arrays.fill(memo, NONE);
            }
        }

        int windOn(int day) {
            int draw = day - twist.today - 1;
            return twist.drawn && draw >= 0 && draw < DAYS ? twist.winds[draw] : plan.windOf(day);
        }

        /** How a SCARE FLAPS now: FOR_PAY, FOR_NOTHING or 0. */
        int flapping(State s, int scare) {
            if ((twist.gone >> scare & 1) != 0) {
                return 0;
            }
            if (twist.allFlap) {
                return FOR_NOTHING;
            }
            int most = twist.allHours ? HOURS : plan.most;
            if (s.onRota(scare) && !s.onStrike(scare) && s.flapped[scare] < most) {
                return FOR_PAY;
            }
            return windOn(s.day) >= plan.gust ? FOR_NOTHING : 0;
        }

        private int sightOf(int scare) {
            return plan.sight[scare] + twist.sightMore;
        }

        /** Puts the NAMES of this HOUR for a SCARE of this SIGHT and GRADE. */
        private void stand(State s, int sight, int grade) {
            names[SIGHT] = sight;
            names[FAR] = 0;
            names[WIND] = windOn(s.day);
            names[HOUR] = s.hour;
            names[GRADE] = grade;
            names[RIPE] = 0;
            names[DATE] = s.day;
        }

        /** Whether who stands there SEES the CELL. */
        private boolean looks(int from, int cell, int ripe) {
            int far = plan.distance(from, cell);
            names[FAR] = far;
            names[RIPE] = ripe;
            long worth = plan.laws[SEE].worth(names, stack);
            return worth == ERROR ? far <= names[SIGHT] : worth != 0;
        }

        /** The CELLS (bits) that a SCARE SEES, whether it FLAPS or not. */
        int seenBy(State s, int scare) {
            stand(s, sightOf(scare), s.grade[scare]);
            int row = memoRow < 0 ? NONE : (memoRow * SCARES + scare) * CELLS;
            int bits = 0;
            for (int cell = 0; cell < plan.cells(); cell++) {
                int ripe = s.crop[cell];
                boolean kept = row >= 0 && row + cell < MEMO;
                boolean is;
                if (kept && memo[row + cell] >> 1 == ripe) {
                    is = (memo[row + cell] & 1) != 0;
                } else {
                    is = looks(plan.at[scare], cell, ripe);
                    if (kept) {
                        memo[row + cell] = ripe * 2 + (is ? 1 : 0);
                    }
                }
                if (is) {
                    bits |= 1 << cell;
                }
            }
            return bits;
        }

        /** The CELLS (bits) of some that a new SCARE of GRADE 0 there would SEE. */
        int seenFrom(State s, int from, int sight, int of) {
            stand(s, sight, 0);
            int bits = 0;
            for (int cell = 0; cell < plan.cells(); cell++) {
                if ((of >> cell & 1) != 0 && looks(from, cell, s.crop[cell])) {
                    bits |= 1 << cell;
                }
            }
            return bits;
        }

        long seeWorth(State s, int scare, int cell) {
            stand(s, sightOf(scare), s.grade[scare]);
            names[FAR] = plan.distance(plan.at[scare], cell);
            names[RIPE] = s.crop[cell];
            return plan.laws[SEE].worth(names, stack);
        }

        long eatWorth(State s, int cell) {
            stand(s, 0, 0);
            names[RIPE] = s.crop[cell];
            return plan.laws[EAT].worth(names, stack);
        }

        long payWorth(State s, int scare) {
            stand(s, sightOf(scare), s.grade[scare]);
            return plan.laws[PAY].worth(names, stack);
        }

        private static int putBetween(long worth) {
            return (int) Math.max(0, Math.min(HIGHEST, worth));
        }

        /** What crows would eat in a CELL that isn't SEEN. */
        int mealIn(State s, int cell) {
            long worth = eatWorth(s, cell);
            return Math.min(s.crop[cell], worth == ERROR ? plan.crows : putBetween(worth));
        }

        private int wage(State s, int scare) {
            long worth = payWorth(s, scare);
            return worth == ERROR ? plan.pay[scare] : putBetween(worth);
        }

        /** The CELL that the crows come to, or NONE. */
        private int aim(State s) {
            int feared = twist.bold ? 0 : s.seen[s.hour];
            int best = NONE;
            int most = 0;
            for (int cell = 0; cell < plan.cells(); cell++) {
                if ((feared >> cell & 1) == 0 && s.crop[cell] > most) {
                    best = cell;
                    most = s.crop[cell];
                }
            }
            return best;
        }

        /** One HOUR goes by. */
        void pass(State s) {
            int seen = 0;
            for (int scare = 0; scare < plan.scares; scare++) {
                int how = flapping(s, scare);
                if (how == FOR_PAY) {
                    s.spent += wage(s, scare);
                    s.flapped[scare]++;
                }
                if (how != 0) {
                    seen |= seenBy(s, scare);
                }
            }
            int cell = aim(s);
            if (cell >= 0 && (seen >> cell & 1) != 0) {
                s.scared++;
            } else if (cell >= 0) {
                int meal = mealIn(s, cell);
                s.crop[cell] -= meal;
                s.eaten += meal;
            }
            s.seen[s.hour] = seen;
            s.tick();
        }

        /** So many HOURS go by, or fewer, if so much is EATEN ahead of that. */
        void passHours(State s, int n, int enough) {
            for (int k = 0; k < n && s.eaten < enough; k++) {
                memoRow = remembering ? k : NONE;
                pass(s);
            }
        }

        /** So many DAYS go by, the rest of today is the first. */
        void passDays(State s, int n) {
            int last = n * HOURS - s.hour;
            for (int k = 0; k < last; k++) {
                pass(s);
            }
        }
    }

    /** What can be undone. */
    private static final class Steps {
        static final int ROTA = 0;
        static final int STRIKE = 1;
        static final int HAT = 2;

        int size;
        private final int[] kind = new int[STEPS];
        private final int[] scare = new int[STEPS];
        private final int[] old = new int[STEPS];

        void add(int newKind, int newScare, int newOld) {
            if (size >= STEPS) {
                System.arraycopy(kind, 1, kind, 0, STEPS - 1);
                System.arraycopy(scare, 1, scare, 0, STEPS - 1);
                System.arraycopy(old, 1, old, 0, STEPS - 1);
                size = STEPS - 1;
            }
            kind[size] = newKind;
            scare[size] = newScare;
            old[size] = newOld;
            size++;
        }

        /** Undoes the latest, if there is one. */
        boolean revert(State s) {
            if (size < 1) {
                return false;
            }
            size--;
            if (kind[size] == ROTA) {
                s.rota[scare[size]] = old[size];
            } else if (kind[size] == HAT) {
                s.grade[scare[size]] = old[size];
            } else {
                s.strikes = old[size];
            }
            return true;
        }
    }

    /** The NOTES and by how many it is KNOWN. */
    private static final class Notes {
        private static final int STRIKES = 0;
        private static final int LESS = 1;
        private static final int AT_LEAST = 2;

        int size;
        private int knownBy = NONE;
        private final int[] kind = new int[NOTES];
        private final int[] hours = new int[NOTES];
        // the CELL, or the NOTE that is struck
        private final int[] about = new int[NOTES];
        private final int[] crop = new int[NOTES];

        void clear() {
            size = 0;
            knownBy = NONE;
        }

        int addCrop(int newHours, int cell, int newCrop, boolean atLeast) {
            return add(atLeast ? AT_LEAST : LESS, newHours, cell, newCrop);
        }

        int addStrike(int struck) {
            return struck < 0 || struck >= size ? NONE : add(STRIKES, 0, struck, 0);
        }

        private int add(int newKind, int newHours, int newAbout, int newCrop) {
            if (size >= NOTES) {
                return NONE;
            }
            kind[size] = newKind;
            hours[size] = newHours;
            about[size] = newAbout;
            crop[size] = newCrop;
            size++;
            return size - 1;
        }

        boolean know(int n) {
            if (n < NONE || n > size) {
                return false;
            }
            knownBy = n;
            return true;
        }

        int knownCount() {
            return knownBy == NONE ? size : Math.min(knownBy, size);
        }

        /** The KNOWN ones (bits), those that strike aside. */
        int standing() {
            int struck = 0;
            int bits = 0;
            for (int i = knownCount() - 1; i >= 0; i--) {
                boolean stands = (struck >> i & 1) == 0;
                if (stands && kind[i] == STRIKES) {
                    struck |= 1 << about[i];
                } else if (stands) {
                    bits |= 1 << i;
                }
            }
            return bits;
        }

        /** The most HOURS that one of these tells of. */
        int lastHours(int which) {
            int last = 0;
            for (int i = 0; i < size; i++) {
                last = (which >> i & 1) != 0 ? Math.max(last, hours[i]) : last;
            }
            return last;
        }

        /** Whether those of these that tell of so many HOURS are so. */
        boolean agree(int which, int after, State s) {
            for (int i = 0; i < size; i++) {
                boolean asked = (which >> i & 1) != 0 && kind[i] != STRIKES && hours[i] == after;
                if (asked && s.crop[about[i]] >= crop[i] != (kind[i] == AT_LEAST)) {
                    return false;
                }
            }
            return true;
        }
    }

    /** Two SCARES against two CELLS by odds. */
    private static final class Lot {
        final int[] eaten = new int[4];
        private int odds;
        private int oddsOf;
        private int mean;
        private int meanOf;

        int answer(int what) {
            switch (what) {
                case 0:
                    return odds;
                case 1:
                    return oddsOf;
                case 2:
                    return mean;
                default:
                    return meanOf;
            }
        }

        void settle() {
            for (int row = 0; row < 2; row++) {
                for (int column = 0; column < 2; column++) {
                    int sure = eaten[row * 2 + column];
                    if (sure <= eaten[(1 - row) * 2 + column] && sure >= eaten[row * 2 + 1 - column]) {
                        put(1 - row, 1, sure, 1);
                        return;
                    }
                }
            }
            int of = eaten[0] - eaten[1] - eaten[2] + eaten[3];
            int sign = of < 0 ? -1 : 1;
            put(sign * (eaten[3] - eaten[2]), sign * of,
                sign * (eaten[0] * eaten[3] - eaten[1] * eaten[2]), sign * of);
        }

        private void put(int newOdds, int newOddsOf, int newMean, int newMeanOf) {
            int common = shared(newOdds, newOddsOf);
            odds = newOdds / common;
            oddsOf = newOddsOf / common;
            common = shared(newMean, newMeanOf);
            mean = newMean / common;
            meanOf = newMeanOf / common;
        }

        /** The greatest number that divides both, 1 at least. */
        private static int shared(int one, int other) {
            int a = Math.abs(one);
            int b = Math.abs(other);
            for (int turn = 0; turn < 64 && b != 0; turn++) {
                int left = a % b;
                a = b;
                b = left;
            }
            return Math.max(1, a);
        }
    }

    private final Reader reader = new Reader();
    private int tapeLength;
    private Plan plan = new Plan();
    private Plan sparePlan = new Plan();
    private final Hours hours = new Hours(plan);
    private final State now = new State();
    private final State image = new State();
    private final State trial = new State();
    private boolean hasImage;
    private final Steps steps = new Steps();
    private final Notes notes = new Notes();
    private final Lot lots = new Lot();
    private final int[] views = new int[SCARES];

    public CrowRota() {
        now.begin(plan);
    }

    public int feed(int a, int b, int c, int d, int e) {
        if (tapeLength + 20 > TAPE) {
            return NONE;
        }
        put(a);
        put(b);
        put(c);
        put(d);
        put(e);
        return tapeLength;
    }

    private void put(int bytes) {
        for (int shift = 24; shift >= 0 && tapeLength < TAPE; shift -= 8) {
            reader.tokens.tape[tapeLength] = bytes >> shift & 255;
            tapeLength++;
        }
    }

    public int text(int n) {
        if (n < 0 || n > tapeLength) {
            return NOT_SO;
        }
        tapeLength = 0;
        reader.start(sparePlan, n);
        // a LINE takes two bytes at least
        for (int line = 0; line < TAPE && !reader.atEnd(); line++) {
            if (!reader.readLine()) {
                return NONE;
            }
        }
        Plan told = sparePlan;
        sparePlan = plan;
        plan = told;
        hours.plan = told;
        now.begin(told);
        notes.clear();
        steps.size = 0;
        hasImage = false;
        return told.lines;
    }

    public int fault(int what) {
        switch (what) {
            case 0:
                return reader.fault;
            case 1:
                return reader.faultPlace;
            default:
                return NONE;
        }
    }

    public int named(int letters) {
        return plan.find(letters);
    }

    public int cell(int cell, int what) throws IndexOutOfBoundsException, NoSuchElementException {
        if (!plan.hasCell(cell)) {
            throw new IndexOutOfBoundsException("no such cell");
        }
        switch (what) {
            case 0:
                return now.crop[cell];
            case 1:
                return now.seen[now.hour] >> cell & 1;
            case 2:
                return seenNow() >> cell & 1;
            default:
                throw new NoSuchElementException("no such what");
        }
    }

    /** The CELLS (bits) that SCARES who would FLAP now SEE. */
    private int seenNow() {
        int bits = 0;
        for (int i = 0; i < plan.scares; i++) {
            if (hours.flapping(now, i) != 0) {
                bits |= hours.seenBy(now, i);
            }
        }
        return bits;
    }

    public int scare(int scare, int what) {
        if (!plan.hasScare(scare)) {
            return NONE;
        }
        switch (what) {
            case 0:
                return plan.at[scare];
            case 1:
                return plan.sight[scare];
            case 2:
                return plan.pay[scare];
            case 3:
                return now.grade[scare];
            case 4:
                return now.rota[scare];
            case 5:
                return now.onStrike(scare) ? 1 : 0;
            case 6:
                return now.flapped[scare];
            case 7:
                return hours.flapping(now, scare);
            default:
                return NONE;
        }
    }

    public int wind(int day) {
        return day < 0 || day > LAST_DAY ? NONE : plan.windOf(day);
    }

    public int sees(int scare, int cell) {
        if (!plan.hasScare(scare) || !plan.hasCell(cell)) {
            return NONE;
        }
        return hours.seenBy(now, scare) >> cell & 1;
    }

    public long law(int what, int scare, int cell) {
        if (what == SEE && plan.hasScare(scare) && plan.hasCell(cell)) {
            return hours.seeWorth(now, scare, cell);
        }
        if (what == EAT && plan.hasCell(cell)) {
            return hours.eatWorth(now, cell);
        }
        if (what == PAY && plan.hasScare(scare)) {
            return hours.payWorth(now, scare);
        }
        return ERROR;
    }

    public boolean flap(int scare, int hour, boolean is) {
        if (!plan.hasScare(scare) || hour < 0 || hour >= HOURS) {
            return false;
        }
        int old = now.rota[scare];
        if ((old >> hour & 1) != 0 == is) {
            return false;
        }
        steps.add(Steps.ROTA, scare, old);
        now.rota[scare] = old ^ 1 << hour;
        return true;
    }

    public boolean strike(int scare, boolean is) {
        if (!plan.hasScare(scare) || now.onStrike(scare) == is) {
            return false;
        }
        steps.add(Steps.STRIKE, scare, now.strikes);
        now.strikes ^= 1 << scare;
        return true;
    }

    public boolean hat(int scare, int grade) {
        if (!plan.hasScare(scare) || grade < 0 || grade > 9 || now.grade[scare] == grade) {
            return false;
        }
        steps.add(Steps.HAT, scare, now.grade[scare]);
        now.grade[scare] = grade;
        return true;
    }

    public int go(int n) {
        if (n < 0 || n > 99 || (now.day * HOURS + now.hour + n) / HOURS > LAST_DAY) {
            return NONE;
        }
        if (n > 0) {
            steps.size = 0;
        }
        for (int k = 0; k < n; k++) {
            hours.pass(now);
        }
        return now.hour;
    }

    public int ahead(int n, int what) {
        if (n < 1 || n > DAYS || what < 0 || what > 2) {
            return NONE;
        }
        trial.follow(now);
        hours.passDays(trial, n);
        return what == 0 ? trial.eaten : what == 1 ? trial.spent : trial.scared;
    }

    public int clash(int what) {
        if (what != 0 && what != 1) {
            return NONE;
        }
        trial.follow(now);
        for (int hour = now.hour; hour < HOURS; hour++) {
            trial.hour = hour;
            for (int i = 0; i < plan.scares; i++) {
                if (trial.onRota(i) && !trial.onStrike(i)) {
                    if (trial.flapped[i] >= plan.most) {
                        return what == 0 ? hour : i;
                    }
                    trial.flapped[i]++;
                }
            }
        }
        return NOT_SO;
    }

    public int keeping(int scare, int n, int what) {
        if (!plan.hasScare(scare) || n < 1 || n > KEEPING_DAYS || what < 0 || what > 1) {
            return NONE;
        }
        hours.remember(true);
        int least = CELLS * HIGHEST + 1;
        int best = 0;
        for (int size = 0; size <= Math.min(3, plan.most); size++) {
            for (int bits = 0; bits < 1 << HOURS; bits++) {
                if (Integer.bitCount(bits) == size) {
                    trial.follow(now);
                    trial.rota[scare] = bits;
                    hours.passHours(trial, n * HOURS - now.hour, least);
                    if (trial.eaten < least) {
                        least = trial.eaten;
                        best = bits;
                    }
                }
            }
        }
        hours.remember(false);
        return what == 0 ? best : least;
    }

    public int allSeen() {
        look();
        int crop = now.ripe();
        int best = NOT_SO;
        for (int bits = 0; bits < 1 << plan.scares; bits++) {
            int seen = 0;
            for (int i = 0; i < plan.scares; i++) {
                if ((bits >> i & 1) != 0) {
                    seen |= views[i];
                }
            }
            boolean fewer = best == NOT_SO || Integer.bitCount(bits) < Integer.bitCount(best);
            if ((crop & ~seen) == 0 && fewer) {
                best = bits;
            }
        }
        return best;
    }

    /** Puts what each SCARE SEES at this HOUR into the views. */
    private void look() {
        for (int i = 0; i < plan.scares; i++) {
            views[i] = hours.seenBy(now, i);
        }
    }

    public int oneMore(int sight, int what) {
        if (sight < 0 || sight > 9 || what < 0 || what > 1) {
            return NONE;
        }
        int open = now.ripe();
        for (int i = 0; i < plan.scares; i++) {
            if (now.onRota(i)) {
                open &= ~hours.seenBy(now, i);
            }
        }
        int best = 0;
        int most = NONE;
        for (int cell = 0; cell < plan.cells(); cell++) {
            int crop = now.cropOf(hours.seenFrom(now, cell, sight, open));
            if (crop > most) {
                best = cell;
                most = crop;
            }
        }
        return what == 0 ? best : most;
    }

    public int costs(int scare, int n, int what) {
        if (!plan.hasScare(scare) || n < 1 || n > DAYS || what < 0 || what > 1) {
            return NONE;
        }
        trial.follow(now);
        trial.strikes |= 1 << scare;
        hours.passDays(trial, n);
        int eaten = trial.eaten;
        int spent = trial.spent;
        trial.follow(now);
        trial.strikes &= ~(1 << scare);
        hours.passDays(trial, n);
        return Math.max(0, what == 0 ? eaten - trial.eaten : trial.spent - spent);
    }

    public int both(int one, int other, int what) {
        if (!plan.hasScare(one) || !plan.hasScare(other) || one == other) {
            return NONE;
        }
        switch (what) {
            case 0:
                return now.rota[one] & now.rota[other];
            case 1:
                return now.cropOf(hours.seenBy(now, one) & hours.seenBy(now, other));
            default:
                return NONE;
        }
    }

    public int expects(int hour) {
        return hour < 0 || hour >= HOURS ? NONE : now.ripe() & ~now.seen[hour];
    }

    public int idle() {
        int crop = now.ripe();
        int bits = 0;
        for (int i = 0; i < plan.scares; i++) {
            if ((hours.seenBy(now, i) & crop) == 0) {
                bits |= 1 << i;
            }
        }
        return bits;
    }

    public int lot(int one, int other, int cell, int otherCell, int what) {
        if (!plan.hasScare(one) || !plan.hasScare(other) || !plan.hasCell(cell) || !plan.hasCell(otherCell)
            || one == other || cell == otherCell || what < 0 || what > 3) {
            return NONE;
        }
        int meal = hours.mealIn(now, cell);
        int otherMeal = hours.mealIn(now, otherCell);
        int seen = hours.seenBy(now, one);
        int otherSeen = hours.seenBy(now, other);
        lots.eaten[0] = (seen >> cell & 1) != 0 ? 0 : meal;
        lots.eaten[1] = (seen >> otherCell & 1) != 0 ? 0 : otherMeal;
        lots.eaten[2] = (otherSeen >> cell & 1) != 0 ? 0 : meal;
        lots.eaten[3] = (otherSeen >> otherCell & 1) != 0 ? 0 : otherMeal;
        lots.settle();
        return lots.answer(what);
    }

    public int share(int turnips, int scare) {
        if (turnips < 0 || turnips > 9999 || !plan.hasScare(scare)) {
            return NONE;
        }
        int weights = 0;
        for (int i = 0; i < plan.scares; i++) {
            weights += now.grade[i] + 1;
        }
        if (weights < 1) {
            return NONE;
        }
        int left = turnips;
        int ahead = 0;
        int cut = turnips * (now.grade[scare] + 1) % weights;
        for (int i = 0; i < plan.scares; i++) {
            int whole = turnips * (now.grade[i] + 1);
            left -= whole / weights;
            if (whole % weights > cut || whole % weights == cut && i < scare) {
                ahead++;
            }
        }
        return turnips * (now.grade[scare] + 1) / weights + (ahead < left ? 1 : 0);
    }

    public int note(int hours, int cell, int crop, boolean atLeast) {
        if (hours < 1 || hours > NOTE_HOURS || !plan.hasCell(cell) || crop < 0 || crop > HIGHEST) {
            return NONE;
        }
        return notes.addCrop(hours, cell, crop, atLeast);
    }

    public int out(int note) {
        return notes.addStrike(note);
    }

    public boolean known(int n) {
        return notes.know(n);
    }

    public int fits(int scare) {
        if (!plan.hasScare(scare)) {
            return NONE;
        }
        int which = notes.standing();
        int last = notes.lastHours(which);
        int bits = 0;
        for (int hour = 0; hour < HOURS; hour++) {
            trial.begin(plan);
            trial.rota[scare] = 1 << hour;
            boolean agreed = true;
            for (int after = 1; after <= last && agreed; after++) {
                hours.pass(trial);
                agreed = notes.agree(which, after, trial);
            }
            if (agreed) {
                bits |= 1 << hour;
            }
        }
        return bits;
    }

    public int chance(int seed, int n, int bound) {
        if (seed < 0 || n < 1 || n > DAYS || bound < 0 || bound > 9999) {
            return NONE;
        }
        Twist twist = hours.twist;
        twist.drawn = true;
        twist.today = now.day;
        long last = seed;
        int times = 0;
        for (int draw = 0; draw < DRAWS; draw++) {
            for (int day = 0; day < n; day++) {
                last = last * 1103515245L + 12345L & 2147483647L;
                twist.winds[day] = (int) (last / 65536 % 10);
            }
            trial.follow(now);
            hours.passDays(trial, n + 1);
            if (trial.eaten >= bound) {
                times++;
            }
        }
        twist.clear();
        return times;
    }

    public int tried(int what, int i, int n) {
        if (n < 1 || n > DAYS || what < 0 || what > 5 || (what == 2 ? !plan.hasScare(i) : i != 0)) {
            return NONE;
        }
        Twist twist = hours.twist;
        trial.follow(now);
        twist.bold = what == 0;
        trial.strikes = what == 1 ? (1 << SCARES) - 1 : trial.strikes;
        twist.gone = what == 2 ? 1 << i : 0;
        twist.sightMore = what == 3 ? 1 : 0;
        twist.allFlap = what == 4;
        twist.allHours = what == 5;
        hours.passDays(trial, n);
        twist.clear();
        return trial.eaten;
    }

    public int undo() {
        return steps.revert(now) ? steps.size : NONE;
    }

    public int keep() {
        image.copy(now);
        hasImage = true;
        return now.day;
    }

    public int back() {
        if (!hasImage) {
            return NONE;
        }
        now.copy(image);
        steps.size = 0;
        return now.day;
    }

    public int count(int what) {
        switch (what) {
            case 0:
                return plan.wide;
            case 1:
                return plan.high;
            case 2:
                return plan.scares;
            case 3:
                return plan.flaps;
            case 4:
                return plan.winds;
            case 5:
                return plan.knots;
            case 6:
                return now.hour;
            case 7:
                return now.day;
            default:
                return countMore(what);
        }
    }

    private int countMore(int what) {
        switch (what) {
            case 8:
                return now.cropOf(now.ripe());
            case 9:
                return now.eaten;
            case 10:
                return now.spent;
            case 11:
                return now.scared;
            case 12:
                return Integer.bitCount(now.strikes);
            case 13:
                return notes.size;
            case 14:
                return notes.knownCount();
            case 15:
                return steps.size;
            default:
                return NONE;
        }
    }
}
