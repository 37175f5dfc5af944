import java.util.Arrays;

/**
 * A tug on the green: two sides, a rope, a ribbon. The project's document says, promise by promise,
 * what every call answers; README.md says how to use the class.
 */
public final class TugRope {
    public static final int NONE = -1;

    /** What is answered where NONE means something else: that there is no such thing. */
    private static final int REFUSED = -2;
    private static final int MOST_PULLERS = 8;
    private static final int MOST_WIND = 60;
    private static final int MOST_STRONG = 40;
    private static final int MOST_RULES = 6;
    private static final int MOST_NOTES = 10;
    private static final int MOST_IMAGES = 4;
    private static final int LAST_HEAVE = 999;
    private static final int LAST_NOTED = 60;
    /** The RIBBON is told as its number and this, so that no answer about it looks like NONE. */
    private static final int MIDDLE = 100;

    private final Tape tape;
    private final RopeReader ropeReader;
    private final RuleReader ruleReader;
    private final Rule[] rules;
    private int ruleCount;
    private final Game now;
    private final Past past;
    private final Game[] images;
    private final Heaver heaver;
    private final Seer seer;

    public TugRope() {
        tape = new Tape();
        Reader reader = new Reader(tape);
        ropeReader = new RopeReader(reader);
        ruleReader = new RuleReader(reader);
        rules = new Rule[MOST_RULES];
        ruleCount = 0;
        now = new Game();
        past = new Past();
        images = new Game[MOST_IMAGES];
        heaver = new Heaver();
        seer = new Seer(now, rules, heaver);
    }

    public int feed(int a, int b, int c, int d, int e) {
        if (!tape.hasRoomFor(20)) {
            return NONE;
        }
        tape.append(a);
        tape.append(b);
        tape.append(c);
        tape.append(d);
        tape.append(e);
        return tape.length;
    }

    public int end(int n) {
        if (n < 0 || n > tape.length) {
            return NONE;
        }
        tape.length = n;
        return n;
    }

    public int rope() {
        Rope told = new Rope();
        int fault = ropeReader.read(told);
        tape.length = 0;
        if (fault != 0) {
            return -2 - fault;
        }
        now.rope = told;
        now.tug.begin(told);
        now.notes = 0;
        past.clear();
        return told.pullers;
    }

    public int rule() {
        if (ruleCount >= MOST_RULES) {
            return NONE;
        }
        int fault = ruleReader.read();
        tape.length = 0;
        if (fault != 0) {
            return -2 - fault;
        }
        rules[ruleCount] = ruleReader.made();
        ruleCount++;
        return ruleCount - 1;
    }

    public int force(int rule) {
        if (rule < NONE || rule >= ruleCount) {
            return REFUSED;
        }
        int was = now.inForce;
        now.inForce = rule;
        return was;
    }

    public int puller(int puller, int what) {
        if (!now.has(puller)) {
            return NONE;
        }
        switch (what) {
            case 0: return now.tug.side[puller];
            case 1: return now.rope.strong[puller];
            case 2: return now.tug.wind[puller];
            case 3: return now.rope.boots[puller];
            case 4: return now.tug.place[puller];
            case 5: return now.tug.stands(puller) ? 1 : 0;
            case 6: return now.tug.worked[puller];
            default: return NONE;
        }
    }

    public int ribbon() {
        return now.rope == null ? NONE : now.tug.ribbon + MIDDLE;
    }

    public int heave() {
        if (now.rope == null || now.tug.heaves >= LAST_HEAVE) {
            return NONE;
        }
        past.keep(now.tug);
        heaver.takeUp(now.rope, seer.ruleInForce());
        heaver.heaveOn(now.tug, 1);
        return now.tug.ribbon + MIDDLE;
    }

    public int send(int puller) {
        if (!now.has(puller)) {
            return NONE;
        }
        past.keep(now.tug);
        now.tug.crossOver(puller, now.rope.pullers);
        return now.tug.side[puller];
    }

    public int front(int puller) {
        if (!now.has(puller) || now.tug.place[puller] == 0) {
            return NONE;
        }
        past.keep(now.tug);
        int was = now.tug.place[puller];
        now.tug.stepToFront(puller, now.rope.pullers);
        return was;
    }

    public int breath(int puller, int much) {
        if (!now.has(puller) || much < 1 || much > 9) {
            return NONE;
        }
        past.keep(now.tug);
        now.tug.wind[puller] = Math.min(MOST_WIND, now.tug.wind[puller] + much);
        return now.tug.wind[puller];
    }

    public int set(int ribbon) {
        if (now.rope == null) {
            return NONE;
        }
        int was = now.tug.ribbon + MIDDLE;
        int least = MIDDLE + 1 - now.rope.line;
        int most = MIDDLE - 1 + now.rope.line;
        if (ribbon < least || ribbon > most || ribbon == was) {
            return NONE;
        }
        past.keep(now.tug);
        now.tug.ribbon = ribbon - MIDDLE;
        return was;
    }

    public int undo() {
        if (past.kept == 0) {
            return NONE;
        }
        past.giveBack(now.tug);
        return past.kept;
    }

    public int fair(int what) {
        if (now.rope == null || what < 0 || what > 1) {
            return NONE;
        }
        int set = now.rope.fairestSet();
        return what == 0 ? now.rope.differenceBy(set) : set;
    }

    public int swings(int puller) {
        return now.has(puller) ? now.rope.tipsBy(puller, false) : NONE;
    }

    public int shares(int puller) {
        return now.has(puller) ? now.rope.tipsBy(puller, true) : NONE;
    }

    public int fewest(int what) {
        if (now.rope == null || what < 0 || what > 1) {
            return NONE;
        }
        if (now.rope.pullers == 0) {
            return REFUSED;
        }
        int set = now.rope.smallestSet();
        return what == 0 ? Integer.bitCount(set) : set;
    }

    public int needed() {
        return now.rope == null ? NONE : now.rope.neededSet();
    }

    public int ahead(int puller, int n, int what) {
        if (now.rope == null || n < 0 || n > 100) {
            return NONE;
        }
        if (what < 0 || what > 2 || what == 1 && !now.has(puller)) {
            return NONE;
        }
        return seer.lookAhead(puller, n, what);
    }

    public int over(int what) {
        if (now.rope == null || what < 0 || what > 1) {
            return NONE;
        }
        return seer.findEnd(what);
    }

    public int row(int puller, int n, int what) {
        if (!now.has(puller) || n < 1 || n > 4 || what < 0 || what > 4) {
            return REFUSED;
        }
        return what > n ? NONE : seer.bestRow(puller, n, what);
    }

    public int trade(int n, int what) {
        if (now.rope == null || n < 1 || n > 40 || what < 0 || what > 2) {
            return REFUSED;
        }
        return seer.bestTrade(n, what);
    }

    public int out(int n, int what) {
        if (now.rope == null || n < 1 || n > 40 || what < 0 || what > 1) {
            return REFUSED;
        }
        return seer.bestIdler(n, what);
    }

    public int strengths(int puller, int what) {
        if (!now.has(puller) || what < 0 || what > 1) {
            return NONE;
        }
        return seer.possibleStrengths(puller, what);
    }

    public int winds(int puller, int what) {
        if (!now.has(puller) || what < 0 || what > 1) {
            return NONE;
        }
        return seer.possibleWinds(puller, what);
    }

    public int rests(int one, int other, int n, int what) {
        if (!now.has(one) || !now.has(other) || one == other) {
            return NONE;
        }
        if (n < 1 || n > 20 || what < 0 || what > 2) {
            return NONE;
        }
        return seer.steadyEfforts(one, other, n, what);
    }

    public int alike(int what) {
        if (now.rope == null || what < 0 || what > 1) {
            return NONE;
        }
        return seer.findAlike(what);
    }

    public int pence(int much, int puller) {
        if (!now.has(puller) || much < 0 || much > 9999) {
            return NONE;
        }
        return now.tug.penceOf(much, puller, now.rope.pullers);
    }

    public int note(int n, int ribbon) {
        if (n == NONE) {
            now.notes = 0;
            return 0;
        }
        boolean told = n >= 0 && n <= LAST_NOTED && ribbon >= 0 && ribbon <= 2 * MIDDLE;
        if (!told || now.rope == null || now.notes >= MOST_NOTES) {
            return REFUSED;
        }
        now.addNote(n, ribbon - MIDDLE);
        return now.notes;
    }

    public int ruled(int what) {
        if (now.rope == null || what < 0 || what > 1) {
            return -3;
        }
        return seer.rulesThatFit(ruleCount, what);
    }

    public int look(int what) {
        if (now.rope == null || what < 0 || what > 1) {
            return NONE;
        }
        return seer.bestPlaceToLook(ruleCount, what);
    }

    public int seed(int x) {
        if (x < 0) {
            return NONE;
        }
        int was = now.draws;
        now.draws = x;
        return was;
    }

    public int rain(int m, int n, int p, int what) {
        if (now.rope == null || m < 1 || m > 10 || n < 1 || n > 60) {
            return NONE;
        }
        if (p < 0 || p > 100 || what < 0 || what > 1) {
            return NONE;
        }
        return seer.inRain(m, n, p, what);
    }

    public int count(int what) {
        switch (what) {
            case 0: return now.rope == null ? 0 : now.rope.line;
            case 1: return now.rope == null ? 0 : now.rope.mud;
            case 2: return now.pullers();
            case 3: return ruleCount;
            case 4: return now.inForce;
            case 5: return now.tug.heaves;
            case 6: return now.tug.setOnSide(0, now.pullers());
            case 7: return now.tug.standing;
            case 8: return now.rope != null && now.tug.isOver(now.rope.line) ? 1 : 0;
            case 9: return now.tug.workedTogether(now.pullers());
            case 10: return now.notes;
            case 11: return past.kept;
            case 12: return now.draws;
            case 13: return tape.length;
            default: return NONE;
        }
    }

    public int image(int k) {
        if (k < 0 || k >= MOST_IMAGES) {
            return NONE;
        }
        if (images[k] == null) {
            images[k] = new Game();
        }
        images[k].copyFrom(now);
        return now.tug.heaves;
    }

    public int back(int k) {
        if (k < 0 || k >= MOST_IMAGES || images[k] == null) {
            return NONE;
        }
        now.copyFrom(images[k]);
        past.clear();
        return now.tug.heaves;
    }

    /** The bytes that are fed, till a ROPE or a RULE is made of them. */
    private static final class Tape {
        static final int MOST = 400;
        /** What is read behind the last byte; no byte is this. */
        static final int NO_BYTE = -1;

        private final byte[] bytes;
        int length;

        Tape() {
            bytes = new byte[MOST];
            length = 0;
        }

        boolean hasRoomFor(int more) {
            return length + more <= MOST;
        }

        void append(int four) {
            for (int shift = 24; shift >= 0 && length < MOST; shift -= 8) {
                bytes[length] = (byte) (four >> shift);
                length++;
            }
        }

        int byteAt(int place) {
            return place < 0 || place >= length ? NO_BYTE : bytes[place] & 255;
        }
    }

    /** Parts the TAPE into tokens first, so that whoever reads them has one to look at, and the next. */
    private static final class Reader {
        /** A sign's kind is its byte; joined to that of < and >, when = follows at once: */
        static final int OR_EQUAL = 256;
        static final int END = 600;
        static final int NUMBER = 601;
        static final int OTHER_WORD = 602;
        static final int FIRST_WORD = 700;
        static final int PULLER = FIRST_WORD;
        static final int RIBBON = FIRST_WORD + 7;
        static final int ROPE = FIRST_WORD + 11;
        static final int PULL = FIRST_WORD + 12;
        static final int IF = FIRST_WORD + 13;
        static final int AND = FIRST_WORD + 14;
        static final int OR = FIRST_WORD + 15;
        static final int NOT = FIRST_WORD + 16;
        /** The first of these are what RULES ask of a PULLER, numbered as Rule numbers them. */
        private static final String WORDS =
                "puller side strong wind boots place mates ribbon line worked heave rope pull if and or not ";

        static final int WRONG = 0;
        static final int BAD_NUMBER = 1;
        static final int TOO_DEEP = 2;
        static final int TOO_MANY_VALUES = 3;
        static final int BAD_CLAUSE = 4;

        private static final int MOST_DIGITS = 5;

        private final Tape tape;
        private final int[] kinds;
        private final int[] numbers;
        private final int[] places;
        private int tokens;
        private int at;
        /** Kind of the token that is looked at. */
        int kind;
        /** Of a NUMBER; NONE, if it has too many digits. */
        int number;
        /** The first one that was found, or 0. */
        int fault;

        Reader(Tape tape) {
            this.tape = tape;
            kinds = new int[Tape.MOST + 1];
            numbers = new int[Tape.MOST + 1];
            places = new int[Tape.MOST + 1];
        }

        void start() {
            tokens = 0;
            int place = 0;
            for (int i = 0; i < Tape.MOST && place < tape.length; i++) {
                place = tape.byteAt(place) == ' ' ? place + 1 : part(place);
            }
            add(END, NONE, tape.length);
            fault = 0;
            at = NONE;
            next();
        }

        void next() {
            if (at + 1 < tokens) {
                at++;
            }
            kind = kinds[at];
            number = numbers[at];
        }

        private void add(int kindOfIt, int numberOfIt, int place) {
            if (tokens <= Tape.MOST) {
                kinds[tokens] = kindOfIt;
                numbers[tokens] = numberOfIt;
                places[tokens] = place;
                tokens++;
            }
        }

        /** Adds the token that begins there, and tells where the next byte is. */
        private int part(int from) {
            int first = tape.byteAt(from);
            int to = from + 1;
            if (first >= '0' && first <= '9') {
                to = behind(from, '0', '9');
                add(NUMBER, numberIn(from, to), from);
            } else if (first >= 'a' && first <= 'z') {
                to = behind(from, 'a', 'z');
                add(wordIn(from, to), NONE, from);
            } else if ((first == '<' || first == '>') && tape.byteAt(to) == '=') {
                to++;
                add(first + OR_EQUAL, NONE, from);
            } else {
                add(first, NONE, from);
            }
            return to;
        }

        private int behind(int from, int least, int most) {
            int to = from;
            for (; to < tape.length; to++) {
                int next = tape.byteAt(to);
                if (next < least || next > most) {
                    break;
                }
            }
            return to;
        }

        private int numberIn(int from, int to) {
            if (to - from > MOST_DIGITS) {
                return NONE;
            }
            int read = 0;
            for (int i = from; i < to; i++) {
                read = read * 10 + tape.byteAt(i) - '0';
            }
            return read;
        }

        private int wordIn(int from, int to) {
            int word = FIRST_WORD;
            int next = from;
            for (int i = 0; i < WORDS.length(); i++) {
                char letter = WORDS.charAt(i);
                if (letter != ' ') {
                    next = next < to && tape.byteAt(next) == letter ? next + 1 : Tape.MOST + 1;
                } else if (next == to) {
                    return word;
                } else {
                    word++;
                    next = from;
                }
            }
            return OTHER_WORD;
        }

        /** Whether the NUMBER here is one of these; if not, it is a FAULT. */
        boolean isNumber(int least, int most) {
            if (kind != NUMBER) {
                return refuse(WRONG);
            }
            return number >= least && number <= most || refuse(BAD_NUMBER);
        }

        /** Behind a CLAUSE: whether another one is to come. */
        boolean goesOn() {
            if (kind == END) {
                return false;
            }
            if (kind != ';') {
                return refuse(WRONG);
            }
            next();
            return true;
        }

        /** Answers false, so that who calls it can hand that on. */
        boolean refuse(int why) {
            if (fault == 0) {
                fault = 1 + 8 * places[at] + why;
            }
            return false;
        }
    }

    /** Reads the language of ROPES. */
    private static final class RopeReader {
        private static final int MOST_CLAUSES = 40;

        private final Reader reader;
        private boolean ribbonTold;

        RopeReader(Reader reader) {
            this.reader = reader;
        }

        /** Tells the FAULT, or 0: then the Rope holds all that the TAPE says. */
        int read(Rope told) {
            ribbonTold = false;
            reader.start();
            boolean more = true;
            for (int clause = 0; more && clause <= MOST_CLAUSES; clause++) {
                more = readClause(clause, told) && reader.goesOn();
            }
            return reader.fault;
        }

        private boolean readClause(int clause, Rope told) {
            switch (reader.kind) {
                case Reader.ROPE:
                    return clause != 0 ? reader.refuse(Reader.BAD_CLAUSE) : readRope(told);
                case Reader.PULLER:
                    boolean ninth = told.pullers >= MOST_PULLERS;
                    return ninth || !fits(clause) ? reader.refuse(Reader.BAD_CLAUSE) : readPuller(told);
                case Reader.RIBBON:
                    return ribbonTold || !fits(clause) ? reader.refuse(Reader.BAD_CLAUSE) : readRibbon(told);
                default:
                    return reader.refuse(Reader.WRONG);
            }
        }

        private static boolean fits(int clause) {
            return clause > 0 && clause < MOST_CLAUSES;
        }

        private boolean readRope(Rope told) {
            told.line = readNumber(1, 60);
            told.mud = readNumber(0, 9);
            reader.next();
            return reader.fault == 0;
        }

        private boolean readPuller(Rope told) {
            int who = told.pullers;
            told.side[who] = readNumber(0, 1);
            told.strong[who] = readNumber(1, MOST_STRONG);
            told.wind[who] = readNumber(0, MOST_WIND);
            told.boots[who] = readNumber(0, 9);
            told.pullers++;
            reader.next();
            return reader.fault == 0;
        }

        private boolean readRibbon(Rope told) {
            ribbonTold = true;
            told.ribbon = readNumber(0, 2 * told.line - 2) - (told.line - 1);
            reader.next();
            return reader.fault == 0;
        }

        /** Any number will do behind a FAULT: nobody looks at that Rope then. */
        private int readNumber(int least, int most) {
            if (reader.fault != 0) {
                return 0;
            }
            reader.next();
            return reader.isNumber(least, most) ? reader.number : 0;
        }
    }

    /** Reads the language of RULES, and writes each SUM and TEST with its signs behind what they join. */
    private static final class RuleReader {
        private static final int MOST_CLAUSES = 12;
        private static final int MOST_DEEP = 10;
        private static final int MOST_COUNTED = 60;

        private final Reader reader;
        private final int[] code;
        private int length;
        /** Where in the code each SUM, and each TEST behind it, begins; then the end. */
        private final int[] marks;
        private int marked;
        /** What of a TEST is not written yet, as its right side is still to come. */
        private final int[] waiting;
        private int waits;
        private int deep;
        private int counted;

        RuleReader(Reader reader) {
            this.reader = reader;
            code = new int[Tape.MOST];
            marks = new int[2 * MOST_CLAUSES + 1];
            waiting = new int[4 * MOST_DEEP];
        }

        /** Tells the FAULT, or 0: then made() gives the RULE. */
        int read() {
            length = 0;
            marked = 0;
            counted = 0;
            reader.start();
            boolean more = true;
            for (int clause = 0; more && clause <= MOST_CLAUSES; clause++) {
                more = readClause(clause) && reader.goesOn();
            }
            mark();
            return reader.fault;
        }

        Rule made() {
            return new Rule(Arrays.copyOf(code, length), Arrays.copyOf(marks, marked));
        }

        private boolean readClause(int clause) {
            if (reader.kind != Reader.PULL) {
                return reader.refuse(Reader.WRONG);
            }
            if (clause >= MOST_CLAUSES) {
                return reader.refuse(Reader.BAD_CLAUSE);
            }
            mark();
            reader.next();
            readSum();
            mark();
            if (reader.fault == 0 && reader.kind == Reader.IF) {
                reader.next();
                readTest();
            }
            return reader.fault == 0;
        }

        private void mark() {
            if (marked < marks.length) {
                marks[marked] = length;
                marked++;
            }
        }

        private void write(int what, int number) {
            if (length < code.length) {
                code[length] = what + Rule.KINDS * number;
                length++;
            }
        }

        /** A SUM needs no row of what waits: of + and - one can wait, and of * / and % one. */
        private void readSum() {
            int adds = 0;
            int binds = 0;
            for (int values = 0; values <= MOST_COUNTED && readValue(); values++) {
                if (binds != 0) {
                    write(binds, 0);
                }
                int joins = Rule.arithmetic(reader.kind);
                binds = joins >= Rule.TIMES ? joins : 0;
                if (binds == 0) {
                    if (adds != 0) {
                        write(adds, 0);
                    }
                    adds = joins;
                }
                if (joins == 0) {
                    return;
                }
                reader.next();
            }
        }

        private boolean readValue() {
            boolean isWord = isValueWord(reader.kind);
            if (!isWord && reader.kind != Reader.NUMBER) {
                return reader.refuse(Reader.WRONG);
            }
            if (!isWord && reader.number == NONE) {
                return reader.refuse(Reader.BAD_NUMBER);
            }
            if (counted >= MOST_COUNTED) {
                return reader.refuse(Reader.TOO_MANY_VALUES);
            }
            counted++;
            write(isWord ? Rule.WORD : Rule.NUMBER, isWord ? reader.kind - Reader.FIRST_WORD : reader.number);
            reader.next();
            return true;
        }

        private static boolean isValueWord(int kind) {
            return kind >= Reader.FIRST_WORD && kind < Reader.FIRST_WORD + Rule.WORDS;
        }

        private void readTest() {
            waits = 0;
            deep = 0;
            for (int facts = 0; facts <= MOST_COUNTED; facts++) {
                openAll();
                readComparison();
                closeAll();
                int joins = reader.kind == Reader.AND ? Rule.AND : reader.kind == Reader.OR ? Rule.OR : 0;
                if (reader.fault != 0 || joins == 0) {
                    break;
                }
                settle(joins);
                hold(joins);
                reader.next();
            }
            settle(Rule.OR);
            if (waits != 0) {
                reader.refuse(Reader.WRONG);
            }
        }

        private void openAll() {
            for (int opened = 0; opened <= MOST_DEEP; opened++) {
                int opens = reader.kind == '[' ? Rule.OPEN : reader.kind == Reader.NOT ? Rule.NOT : 0;
                if (opens == 0) {
                    return;
                }
                if (deep >= MOST_DEEP) {
                    reader.refuse(Reader.TOO_DEEP);
                    return;
                }
                deep++;
                hold(opens);
                reader.next();
            }
        }

        private void readComparison() {
            if (reader.fault != 0) {
                return;
            }
            readSum();
            int compares = Rule.comparison(reader.kind);
            if (compares == 0) {
                reader.refuse(Reader.WRONG);
            } else if (counted >= MOST_COUNTED) {
                reader.refuse(Reader.TOO_MANY_VALUES);
            }
            if (reader.fault != 0) {
                return;
            }
            counted++;
            reader.next();
            readSum();
            write(compares, 0);
        }

        private void closeAll() {
            for (int closed = 0; closed <= MOST_DEEP; closed++) {
                if (reader.fault != 0 || reader.kind != ']') {
                    return;
                }
                settle(Rule.OR);
                if (waits == 0) {
                    return;
                }
                waits--;
                deep--;
                reader.next();
            }
        }

        private void hold(int what) {
            if (waits < waiting.length) {
                waiting[waits] = what;
                waits++;
            }
        }

        /** Writes what waits, back to the last bracket, as far as it binds at least so closely. */
        private void settle(int closely) {
            for (; waits > 0 && waiting[waits - 1] >= closely; waits--) {
                int what = waiting[waits - 1];
                if (what == Rule.NOT) {
                    deep--;
                }
                write(what, 0);
            }
        }
    }

    /** A RULE: per CLAUSE the code of its SUM, then that of its TEST, with the marks where they begin. */
    private static final class Rule {
        /** OPEN to NOT stand in the order of how closely they bind; TIMES to REST bind closer than PLUS. */
        static final int OPEN = 1;
        static final int OR = 2;
        static final int AND = 3;
        static final int NOT = 4;
        static final int PLUS = 5;
        static final int MINUS = 6;
        static final int TIMES = 7;
        static final int DIVIDED = 8;
        static final int REST = 9;
        static final int LESS = 10;
        static final int AT_MOST = 11;
        static final int EQUAL = 12;
        static final int AT_LEAST = 13;
        static final int MORE = 14;
        static final int NUMBER = 15;
        static final int WORD = 16;
        /** More than all of these: what a code number is made of and parted by. */
        static final int KINDS = 32;

        static final int PULLER = 0;
        static final int SIDE = 1;
        static final int STRONG = 2;
        static final int WIND = 3;
        static final int BOOTS = 4;
        static final int PLACE = 5;
        static final int MATES = 6;
        static final int RIBBON = 7;
        static final int LINE = 8;
        static final int WORKED = 9;
        static final int HEAVE = 10;
        static final int WORDS = 11;
        /** No SUM or TEST can have more waiting than there are VALUES. */
        static final int MOST_STACKED = 64;

        private final int[] code;
        private final int[] marks;

        Rule(int[] code, int[] marks) {
            this.code = code;
            this.marks = marks;
        }

        static int arithmetic(int kind) {
            switch (kind) {
                case '+': return PLUS;
                case '-': return MINUS;
                case '*': return TIMES;
                case '/': return DIVIDED;
                case '%': return REST;
                default: return 0;
            }
        }

        static int comparison(int kind) {
            switch (kind) {
                case '<': return LESS;
                case '<' + Reader.OR_EQUAL: return AT_MOST;
                case '=': return EQUAL;
                case '>' + Reader.OR_EQUAL: return AT_LEAST;
                case '>': return MORE;
                default: return 0;
            }
        }

        /** What the first CLAUSE says that holds for one of whom the WORDS are these. */
        long saysTo(long[] words, long[] stack) {
            for (int i = 0; i + 2 < marks.length; i += 2) {
                boolean untested = marks[i + 1] == marks[i + 2];
                if (untested || evaluate(marks[i + 1], marks[i + 2], words, stack) != 0) {
                    return evaluate(marks[i], marks[i + 1], words, stack);
                }
            }
            return 0;
        }

        private long evaluate(int from, int to, long[] words, long[] stack) {
            int top = 0;
            for (int i = from; i < to && i < code.length && top < stack.length; i++) {
                int what = code[i] % KINDS;
                int number = code[i] / KINDS;
                if (what == NUMBER) {
                    stack[top] = number;
                    top++;
                } else if (what == WORD) {
                    stack[top] = number < words.length ? words[number] : 0;
                    top++;
                } else if (what == NOT && top >= 1) {
                    stack[top - 1] = 1 - stack[top - 1];
                } else if (top >= 2) {
                    stack[top - 2] = joined(what, stack[top - 2], stack[top - 1]);
                    top--;
                }
            }
            return stack[0];
        }

        private static long joined(int what, long a, long b) {
            switch (what) {
                case OR: return a | b;
                case AND: return a & b;
                case PLUS: return a + b;
                case MINUS: return a - b;
                case TIMES: return a * b;
                case DIVIDED: return b == 0 ? 0 : a / b;
                case REST: return b == 0 ? 0 : a % b;
                case LESS: return a < b ? 1 : 0;
                case AT_MOST: return a <= b ? 1 : 0;
                case EQUAL: return a == b ? 1 : 0;
                case AT_LEAST: return a >= b ? 1 : 0;
                default: return a > b ? 1 : 0;
            }
        }
    }

    /** A ROPE as it was told. One that is in use never changes, so images can share it. */
    private static final class Rope {
        /** In how many rows none to seven can stand. */
        private static final int[] ROWS_OF = {1, 1, 2, 6, 24, 120, 720, 5040};

        int line;
        int mud;
        int ribbon;
        int pullers;
        final int[] side;
        final int[] strong;
        final int[] wind;
        final int[] boots;

        Rope() {
            side = new int[MOST_PULLERS];
            strong = new int[MOST_PULLERS];
            wind = new int[MOST_PULLERS];
            boots = new int[MOST_PULLERS];
        }

        void copyFrom(Rope other) {
            line = other.line;
            mud = other.mud;
            ribbon = other.ribbon;
            pullers = other.pullers;
            System.arraycopy(other.side, 0, side, 0, MOST_PULLERS);
            System.arraycopy(other.strong, 0, strong, 0, MOST_PULLERS);
            System.arraycopy(other.wind, 0, wind, 0, MOST_PULLERS);
            System.arraycopy(other.boots, 0, boots, 0, MOST_PULLERS);
        }

        int everyone() {
            return (1 << pullers) - 1;
        }

        private int weightOf(int set) {
            int weight = 0;
            for (int who = 0; who < pullers; who++) {
                if ((set >> who & 1) == 1) {
                    weight += strong[who];
                }
            }
            return weight;
        }

        int differenceBy(int set) {
            return Math.abs(weightOf(everyone()) - 2 * weightOf(set));
        }

        private boolean outweighs(int set) {
            return 2 * weightOf(set) > weightOf(everyone());
        }

        int fairestSet() {
            int best = 0;
            int least = differenceBy(0);
            for (int set = 1; set <= everyone(); set++) {
                int difference = differenceBy(set);
                if (difference < least) {
                    least = difference;
                    best = set;
                }
            }
            return best;
        }

        /** How often that one tips it: once a set of others, or once a row in which these are ahead. */
        int tipsBy(int who, boolean inRows) {
            int one = 1 << who;
            int times = 0;
            for (int set = 0; set <= everyone(); set++) {
                if ((set & one) == 0 && !outweighs(set) && outweighs(set | one)) {
                    times += inRows ? rowsWithAhead(Integer.bitCount(set)) : 1;
                }
            }
            return times;
        }

        private int rowsWithAhead(int ahead) {
            int behind = pullers - 1 - ahead;
            boolean known = ahead >= 0 && ahead < ROWS_OF.length && behind >= 0 && behind < ROWS_OF.length;
            return known ? ROWS_OF[ahead] * ROWS_OF[behind] : 0;
        }

        int smallestSet() {
            int best = everyone();
            for (int set = everyone(); set >= 0; set--) {
                if (Integer.bitCount(set) <= Integer.bitCount(best) && outweighs(set)) {
                    best = set;
                }
            }
            return best;
        }

        int neededSet() {
            int needed = 0;
            for (int who = 0; who < pullers; who++) {
                if (!outweighs(everyone() & ~(1 << who))) {
                    needed |= 1 << who;
                }
            }
            return needed;
        }
    }

    /** How a tug stands: all that ACTS change. */
    private static final class Tug {
        static final int MOST_WORKED = 999;

        int ribbon;
        int heaves;
        int standing;
        final int[] side;
        final int[] place;
        final int[] wind;
        final int[] worked;

        Tug() {
            side = new int[MOST_PULLERS];
            place = new int[MOST_PULLERS];
            wind = new int[MOST_PULLERS];
            worked = new int[MOST_PULLERS];
        }

        void begin(Rope rope) {
            ribbon = rope.ribbon;
            heaves = 0;
            standing = rope.everyone();
            int others = 0;
            for (int who = 0; who < rope.pullers; who++) {
                side[who] = rope.side[who];
                place[who] = side[who] == 0 ? who - others : others;
                others += side[who];
                wind[who] = rope.wind[who];
                worked[who] = 0;
            }
        }

        void copyFrom(Tug other) {
            ribbon = other.ribbon;
            heaves = other.heaves;
            standing = other.standing;
            System.arraycopy(other.side, 0, side, 0, MOST_PULLERS);
            System.arraycopy(other.place, 0, place, 0, MOST_PULLERS);
            System.arraycopy(other.wind, 0, wind, 0, MOST_PULLERS);
            System.arraycopy(other.worked, 0, worked, 0, MOST_PULLERS);
        }

        boolean isOver(int line) {
            return ribbon >= line || ribbon <= -line;
        }

        boolean stands(int who) {
            return (standing >> who & 1) == 1;
        }

        int towards(int onSide) {
            return onSide == 0 ? -ribbon : ribbon;
        }

        int setOnSide(int wanted, int pullers) {
            int set = 0;
            for (int who = 0; who < pullers; who++) {
                if (side[who] == wanted) {
                    set |= 1 << who;
                }
            }
            return set;
        }

        int workedTogether(int pullers) {
            int sum = 0;
            for (int who = 0; who < pullers; who++) {
                sum += worked[who];
            }
            return sum;
        }

        void crossOver(int who, int pullers) {
            int from = side[who];
            int behind = 0;
            for (int other = 0; other < pullers; other++) {
                if (side[other] != from) {
                    behind++;
                } else if (place[other] > place[who]) {
                    place[other]--;
                }
            }
            side[who] = 1 - from;
            place[who] = behind;
        }

        void stepToFront(int who, int pullers) {
            for (int other = 0; other < pullers; other++) {
                if (side[other] == side[who] && place[other] < place[who]) {
                    place[other]++;
                }
            }
            place[who] = 0;
        }

        void changePlaces(int one, int other) {
            int keptSide = side[one];
            int keptPlace = place[one];
            side[one] = side[other];
            place[one] = place[other];
            side[other] = keptSide;
            place[other] = keptPlace;
        }

        int penceOf(int much, int who, int pullers) {
            int all = workedTogether(pullers);
            if (all == 0) {
                return 0;
            }
            int left = much;
            int ahead = 0;
            int lost = much * worked[who] % all;
            for (int other = 0; other < pullers; other++) {
                int otherLost = much * worked[other] % all;
                left -= much * worked[other] / all;
                if (otherLost > lost || otherLost == lost && other < who) {
                    ahead++;
                }
            }
            return much * worked[who] / all + (ahead < left ? 1 : 0);
        }

        /** RIBBON, WIND and who STANDS in one number: two of these are alike if they are equal. */
        long likeness(int pullers) {
            long all = (long) (ribbon + MIDDLE) << 8 | standing;
            for (int who = 0; who < pullers; who++) {
                all = all << 6 | wind[who];
            }
            return all;
        }
    }

    /** All that an IMAGE holds. */
    private static final class Game {
        /** null: none was told yet. */
        Rope rope;
        final Tug tug;
        int inForce;
        int draws;
        int notes;
        private final int[] notedHeave;
        private final int[] notedRibbon;

        Game() {
            tug = new Tug();
            inForce = NONE;
            notedHeave = new int[MOST_NOTES];
            notedRibbon = new int[MOST_NOTES];
        }

        void copyFrom(Game other) {
            rope = other.rope;
            tug.copyFrom(other.tug);
            inForce = other.inForce;
            draws = other.draws;
            notes = other.notes;
            System.arraycopy(other.notedHeave, 0, notedHeave, 0, MOST_NOTES);
            System.arraycopy(other.notedRibbon, 0, notedRibbon, 0, MOST_NOTES);
        }

        int pullers() {
            return rope == null ? 0 : rope.pullers;
        }

        boolean has(int who) {
            return who >= 0 && who < pullers();
        }

        void addNote(int heave, int ribbon) {
            if (notes < MOST_NOTES) {
                notedHeave[notes] = heave;
                notedRibbon[notes] = ribbon;
                notes++;
            }
        }

        /** NONE, if there are no NOTES. */
        int lastNoted() {
            int last = NONE;
            for (int i = 0; i < notes; i++) {
                last = Math.max(last, notedHeave[i]);
            }
            return last;
        }

        /** Whether the RIBBON can be there behind that HEAVE. */
        boolean notesAllow(int heave, int ribbon) {
            for (int i = 0; i < notes; i++) {
                if (notedHeave[i] == heave && notedRibbon[i] != ribbon) {
                    return false;
                }
            }
            return true;
        }
    }

    /** How the tug stood ahead of each of the last ACTS, in a ring. */
    private static final class Past {
        private static final int MOST = 20;

        private final Tug[] ring;
        private int next;
        int kept;

        Past() {
            ring = new Tug[MOST];
            for (int i = 0; i < MOST; i++) {
                ring[i] = new Tug();
            }
        }

        void clear() {
            kept = 0;
        }

        void keep(Tug tug) {
            ring[next].copyFrom(tug);
            next = (next + 1) % MOST;
            kept = Math.min(MOST, kept + 1);
        }

        void giveBack(Tug tug) {
            next = (next + MOST - 1) % MOST;
            tug.copyFrom(ring[next]);
            kept--;
        }
    }

    /** Makes HEAVES, by hand and in what is asked alike. */
    private static final class Heaver {
        private static final int FARTHEST = 99;
        private static final int MOST_EFFORT = 3;
        private static final int EFFORT_WITHOUT_RULE = 2;
        private static final int BREATH_OF_REST = 2;

        private Rope rope;
        private Rule rule;
        /** EFFORTS in place of what the RULE says; NONE: as the RULE says. */
        private final int[] fixed;
        private final int[] efforts;
        private final int[] uprightOnSide;
        private final long[] words;
        private final long[] stack;

        Heaver() {
            fixed = new int[MOST_PULLERS];
            efforts = new int[MOST_PULLERS];
            uprightOnSide = new int[2];
            words = new long[Rule.WORDS];
            stack = new long[Rule.MOST_STACKED];
        }

        /** A rule of null: none is IN FORCE. */
        void takeUp(Rope onRope, Rule byRule) {
            rope = onRope;
            rule = byRule;
            Arrays.fill(fixed, NONE);
        }

        void fix(int who, int effort) {
            if (who >= 0 && who < fixed.length) {
                fixed[who] = effort;
            }
        }

        void heaveOn(Tug tug, int times) {
            for (int i = 0; i < times && rope != null; i++) {
                if (!tug.isOver(rope.line)) {
                    chooseEfforts(tug);
                    int quarter = drawn(tug) / 4;
                    tire(tug);
                    tug.ribbon = Math.max(-FARTHEST, Math.min(FARTHEST, tug.ribbon + quarter));
                    tug.standing = rope.everyone() & ~slipped(tug, quarter);
                }
                tug.heaves++;
            }
        }

        private void chooseEfforts(Tug tug) {
            uprightOnSide[0] = Integer.bitCount(tug.standing & tug.setOnSide(0, rope.pullers));
            uprightOnSide[1] = Integer.bitCount(tug.standing) - uprightOnSide[0];
            for (int who = 0; who < rope.pullers; who++) {
                long wanted = fixed[who];
                if (!tug.stands(who)) {
                    wanted = 0;
                } else if (wanted == NONE && rule == null) {
                    wanted = EFFORT_WITHOUT_RULE;
                } else if (wanted == NONE) {
                    tellWords(tug, who);
                    wanted = rule.saysTo(words, stack);
                }
                int most = Math.min(MOST_EFFORT, tug.wind[who]);
                efforts[who] = (int) Math.max(0, Math.min(most, wanted));
            }
        }

        private void tellWords(Tug tug, int who) {
            int side = tug.side[who];
            words[Rule.PULLER] = who;
            words[Rule.SIDE] = side;
            words[Rule.STRONG] = rope.strong[who];
            words[Rule.WIND] = tug.wind[who];
            words[Rule.BOOTS] = rope.boots[who];
            words[Rule.PLACE] = tug.place[who];
            words[Rule.MATES] = uprightOnSide[side] - 1;
            words[Rule.RIBBON] = tug.towards(side);
            words[Rule.LINE] = rope.line;
            words[Rule.WORKED] = tug.worked[who];
            words[Rule.HEAVE] = tug.heaves;
        }

        private int drawn(Tug tug) {
            int towardsOne = 0;
            for (int who = 0; who < rope.pullers; who++) {
                int draws = rope.strong[who] * efforts[who];
                towardsOne += tug.side[who] == 1 ? draws : -draws;
            }
            return towardsOne;
        }

        private void tire(Tug tug) {
            for (int who = 0; who < rope.pullers; who++) {
                int wind = tug.wind[who];
                if (efforts[who] > 0) {
                    tug.wind[who] = wind - efforts[who];
                    tug.worked[who] = Math.min(Tug.MOST_WORKED, tug.worked[who] + efforts[who]);
                } else if (wind < rope.wind[who]) {
                    tug.wind[who] = Math.min(rope.wind[who], wind + BREATH_OF_REST);
                }
            }
        }

        /** Who is DOWN now, as a set of one or none. */
        private int slipped(Tug tug, int quarter) {
            if (quarter == 0) {
                return 0;
            }
            int leftSide = quarter > 0 ? 0 : 1;
            int slippery = Math.abs(quarter) + rope.mud - 5;
            int first = NONE;
            for (int who = 0; who < rope.pullers; who++) {
                boolean slips = tug.side[who] == leftSide && rope.boots[who] < slippery;
                if (slips && (first == NONE || tug.place[who] < tug.place[first])) {
                    first = who;
                }
            }
            return first == NONE ? 0 : 1 << first;
        }
    }

    /** Answers what is asked of how it goes on; tries all on a tug of its own. */
    private static final class Seer {
        private static final int MOST_OVER = 200;
        private static final int MOST_ALIKE = 60;
        private static final int EFFORTS = 4;

        private final Game now;
        private final Rule[] rules;
        private final Heaver heaver;
        private final Tug trial;
        private final Rope tried;
        private final long[] seen;
        private final int[][] tracks;
        private final int[] oneHas;
        private final int[] otherHas;

        Seer(Game now, Rule[] rules, Heaver heaver) {
            this.now = now;
            this.rules = rules;
            this.heaver = heaver;
            trial = new Tug();
            tried = new Rope();
            seen = new long[MOST_ALIKE + 1];
            tracks = new int[MOST_RULES + 1][LAST_NOTED + 1];
            oneHas = new int[EFFORTS * EFFORTS];
            otherHas = new int[EFFORTS * EFFORTS];
        }

        private Rule ruleAt(int number) {
            return number < 0 || number >= rules.length ? null : rules[number];
        }

        Rule ruleInForce() {
            return ruleAt(now.inForce);
        }

        private void startFromNow() {
            heaver.takeUp(now.rope, ruleInForce());
            trial.copyFrom(now.tug);
        }

        int lookAhead(int who, int n, int what) {
            startFromNow();
            heaver.heaveOn(trial, n);
            if (what == 0) {
                return trial.ribbon + MIDDLE;
            }
            return what == 1 ? trial.wind[who] : trial.standing;
        }

        int findEnd(int what) {
            startFromNow();
            for (int n = 0; n < MOST_OVER; n++) {
                heaver.heaveOn(trial, 1);
                if (trial.isOver(now.rope.line)) {
                    return what == 0 ? now.tug.heaves + n : trial.ribbon < 0 ? 0 : 1;
                }
            }
            return REFUSED;
        }

        /** A row is a number to the base 4, the first HEAVE highest: so the least one is the first. */
        int bestRow(int who, int n, int what) {
            int best = 0;
            int farthest = 0;
            for (int row = 0; row < 1 << 2 * n; row++) {
                int far = farByRow(who, n, row);
                if (row == 0 || far > farthest) {
                    best = row;
                    farthest = far;
                }
            }
            return what == 0 ? farthest + MIDDLE : effortIn(best, n, what);
        }

        private static int effortIn(int row, int n, int heave) {
            return row >> 2 * (n - heave) & 3;
        }

        private int farByRow(int who, int n, int row) {
            startFromNow();
            for (int heave = 1; heave <= n; heave++) {
                heaver.fix(who, effortIn(row, n, heave));
                heaver.heaveOn(trial, 1);
            }
            return trial.towards(trial.side[who]);
        }

        int bestTrade(int n, int what) {
            startFromNow();
            heaver.heaveOn(trial, n);
            int nearest = Math.abs(trial.ribbon);
            int one = NONE;
            int other = NONE;
            for (int a = 0; a < now.rope.pullers; a++) {
                for (int b = 0; b < now.rope.pullers; b++) {
                    int near = nearByTrade(a, b, n, nearest);
                    if (near < nearest) {
                        nearest = near;
                        one = a;
                        other = b;
                    }
                }
            }
            return what == 0 ? nearest : what == 1 ? one : other;
        }

        /** Those who can't change answer as near as it is: that is never better. */
        private int nearByTrade(int a, int b, int n, int asItIs) {
            if (now.tug.side[a] != 0 || now.tug.side[b] != 1) {
                return asItIs;
            }
            startFromNow();
            trial.changePlaces(a, b);
            heaver.heaveOn(trial, n);
            return Math.abs(trial.ribbon);
        }

        int bestIdler(int n, int what) {
            int nearest = 0;
            int best = NONE;
            for (int who = NONE; who < now.rope.pullers; who++) {
                startFromNow();
                if (who != NONE) {
                    heaver.fix(who, 0);
                }
                heaver.heaveOn(trial, n);
                int near = Math.abs(trial.ribbon);
                if (who == NONE || near < nearest) {
                    nearest = near;
                    best = who;
                }
            }
            return what == 0 ? best : nearest;
        }

        int possibleStrengths(int who, int what) {
            int many = 0;
            int least = REFUSED;
            tried.copyFrom(now.rope);
            for (int strong = MOST_STRONG; strong >= 1; strong--) {
                tried.strong[who] = strong;
                if (isAsNoted(tried, ruleInForce())) {
                    many++;
                    least = strong;
                }
            }
            return what == 0 ? many : least;
        }

        int possibleWinds(int who, int what) {
            int many = 0;
            int least = REFUSED;
            tried.copyFrom(now.rope);
            for (int wind = MOST_WIND; wind >= 0; wind--) {
                tried.wind[who] = wind;
                if (isAsNoted(tried, ruleInForce())) {
                    many++;
                    least = wind;
                }
            }
            return what == 0 ? many : least;
        }

        private boolean isAsNoted(Rope rope, Rule rule) {
            heaver.takeUp(rope, rule);
            trial.begin(rope);
            int last = now.lastNoted();
            for (int n = 0; n <= last; n++) {
                heaver.heaveOn(trial, 1);
                if (!now.notesAllow(n, trial.ribbon)) {
                    return false;
                }
            }
            return true;
        }

        int steadyEfforts(int one, int other, int n, int what) {
            for (int pair = 0; pair < EFFORTS * EFFORTS; pair++) {
                startFromNow();
                heaver.fix(one, pair / EFFORTS);
                heaver.fix(other, pair % EFFORTS);
                heaver.heaveOn(trial, n);
                oneHas[pair] = trial.towards(trial.side[one]) + trial.wind[one];
                otherHas[pair] = trial.towards(trial.side[other]) + trial.wind[other];
            }
            int many = 0;
            int first = NONE;
            for (int pair = EFFORTS * EFFORTS - 1; pair >= 0; pair--) {
                if (isSteady(pair / EFFORTS, pair % EFFORTS)) {
                    many++;
                    first = pair;
                }
            }
            if (what == 0) {
                return many;
            }
            return many == 0 ? REFUSED : what == 1 ? first / EFFORTS : first % EFFORTS;
        }

        private boolean isSteady(int a, int b) {
            int pair = a * EFFORTS + b;
            for (int instead = 0; instead < EFFORTS; instead++) {
                if (oneHas[instead * EFFORTS + b] > oneHas[pair]) {
                    return false;
                }
                if (otherHas[a * EFFORTS + instead] > otherHas[pair]) {
                    return false;
                }
            }
            return true;
        }

        int findAlike(int what) {
            startFromNow();
            for (int n = 0; n <= MOST_ALIKE; n++) {
                seen[n] = trial.likeness(now.rope.pullers);
                heaver.heaveOn(trial, 1);
            }
            for (int n = 0; n < MOST_ALIKE; n++) {
                for (int later = n + 1; later <= MOST_ALIKE; later++) {
                    if (seen[n] == seen[later]) {
                        return what == 0 ? now.tug.heaves + n : later - n;
                    }
                }
            }
            return REFUSED;
        }

        int rulesThatFit(int ruleCount, int what) {
            int many = 0;
            int first = REFUSED;
            for (int rule = ruleCount - 1; rule >= NONE; rule--) {
                if (isAsNoted(now.rope, ruleAt(rule))) {
                    many++;
                    first = rule;
                }
            }
            return what == 0 ? many : first;
        }

        int bestPlaceToLook(int ruleCount, int what) {
            int fitting = 0;
            for (int rule = NONE; rule < ruleCount; rule++) {
                if (isAsNoted(now.rope, ruleAt(rule))) {
                    follow(ruleAt(rule), fitting);
                    fitting++;
                }
            }
            if (fitting == 0) {
                return REFUSED;
            }
            int best = 0;
            int fewest = fitting;
            for (int n = 0; n <= LAST_NOTED; n++) {
                int most = mostAlike(n, fitting);
                if (most < fewest) {
                    fewest = most;
                    best = n;
                }
            }
            return what == 0 ? best : fewest;
        }

        /** Where the RIBBON is behind each HEAVE, HEAVE 0 the first: not where it was told to be. */
        private void follow(Rule rule, int track) {
            heaver.takeUp(now.rope, rule);
            trial.begin(now.rope);
            for (int n = 0; n <= LAST_NOTED; n++) {
                heaver.heaveOn(trial, 1);
                tracks[track][n] = trial.ribbon;
            }
        }

        private int mostAlike(int n, int fitting) {
            int most = 0;
            for (int a = 0; a < fitting; a++) {
                int alike = 0;
                for (int b = 0; b < fitting; b++) {
                    alike += tracks[a][n] == tracks[b][n] ? 1 : 0;
                }
                most = Math.max(most, alike);
            }
            return most;
        }

        int inRain(int m, int n, int p, int what) {
            int won = 0;
            int together = 0;
            int x = now.draws;
            for (int time = 0; time < m; time++) {
                startFromNow();
                for (int i = 0; i < n; i++) {
                    x = drawnAfter(x);
                    if (drawOf(x) % 100 < p && now.rope.pullers > 0) {
                        x = drawnAfter(x);
                        trial.standing &= ~(1 << drawOf(x) % now.rope.pullers);
                    }
                    heaver.heaveOn(trial, 1);
                }
                won += trial.ribbon >= now.rope.line ? 1 : 0;
                together += trial.ribbon + 2 * MIDDLE;
            }
            return what == 0 ? won : together;
        }

        private static int drawnAfter(int x) {
            return (int) ((x * 1103515245L + 12345L) % 2147483648L);
        }

        private static int drawOf(int x) {
            return x / 65536;
        }
    }
}
