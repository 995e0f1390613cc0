import java.util.Arrays;

/**
 * Streaming tree rewriters: MACHINES, told as texts, that read a DOCUMENT once, EVENT by EVENT.
 * The words in capitals are those of the document that says what this class does.
 */
public final class TreeStream {

    public static final int NONE = -1;

    /** The second answer that tells of no result, where NONE has a meaning of its own. */
    private static final int WRONG = -2;

    private static final int CLOSE = 3;
    private static final int LETTERS = 3;

    /** Signs of an EXPRESSION: EVENTS as they are told, x from X on, y from Y on. */
    private static final int X = 4;
    private static final int Y = 8;

    private static final int MOST_STATES = 6;
    private static final int MOST_REGISTERS = 3;
    private static final int MOST_MARKS = 6;
    private static final int MOST_RULES = 24;
    private static final int MOST_OWN = 6;
    private static final int MOST_BYTES = 600;
    private static final int MOST_MACHINES = 4;
    private static final int MOST_ELEMENTS = 40;

    /** What a MACHINE can make of the largest DOCUMENT. */
    private static final int MOST_BETWEEN = MOST_ELEMENTS * MOST_OWN + MOST_OWN;

    /** Limits of a READING. */
    private static final int MOST_OPENS = 400;
    private static final int MOST_DEPTH = 60;
    private static final int MOST_OUT = MOST_OPENS * MOST_OWN + MOST_OWN;

    /** Limits of arguments. */
    private static final int BOUND_LIMIT = 1000;
    private static final int MANY_LIMIT = 16;
    private static final int LOOK_LIMIT = 4;

    /** Limits of the MACHINES of safe. */
    private static final int SAFE_STATES = 3;
    private static final int SAFE_REGISTERS = 2;
    private static final int SAFE_BEHIND = 2;

    private final Tape tape = new Tape();
    private final Texts texts = new Texts(tape);
    private final Machine[] machines = new Machine[MOST_MACHINES];
    private final Machine[] stock = new Machine[MOST_MACHINES + 2];
    private final Events given = new Events(MOST_ELEMENTS);
    private final Events draft = new Events(MOST_ELEMENTS);
    private final Events out = new Events(MOST_OUT);
    private final Reader reading = new Reader(MOST_OPENS);
    private final Reader front = new Reader(MOST_ELEMENTS);
    private final Reader behind = new Reader(MOST_BETWEEN);
    private final Ways ways = new Ways();
    private final Scout scout = new Scout();
    private final Search search = new Search(front, behind, scout, draft);
    private final Safety safety = new Safety();

    public TreeStream() {
        for (int i = 0; i < stock.length; i++) {
            stock[i] = new Machine();
        }
    }

    // ---- texts

    public int feed(int a, int b, int c, int d, int e) {
        if (!tape.hasRoom()) {
            return NONE;
        }
        tape.append(a);
        tape.append(b);
        tape.append(c);
        tape.append(d);
        tape.append(e);
        return tape.length;
    }

    public boolean end(int n) {
        if (n < 0 || n > tape.length) {
            return false;
        }
        tape.length = n;
        return true;
    }

    public int machine(int k) {
        if (k < 0 || k >= machines.length) {
            return NONE;
        }
        Machine fresh = unused();
        texts.readMachine(fresh);
        if (tape.fault != 0) {
            return WRONG;
        }
        machines[k] = fresh;
        return fresh.rules();
    }

    public int document() {
        texts.readDocument(draft);
        if (tape.fault != 0) {
            return WRONG;
        }
        given.become(draft);
        return given.elements();
    }

    public int fault() {
        return tape.fault;
    }

    public int of(int k, int what) {
        Machine m = told(k);
        if (m == null) {
            return NONE;
        }
        switch (what) {
            case 0:
                return m.states;
            case 1:
                return m.registers;
            case 2:
                return m.openRules;
            case 3:
                return m.closeRules;
            case 4:
                return m.endRules;
            case 5:
                return Math.max(m.mostOfClose, m.mostOfEnd);
            default:
                return NONE;
        }
    }

    public int count(int what) {
        switch (what) {
            case 0:
                return toldMachines();
            case 1:
                return given.elements();
            case 2:
                return given.depth();
            case 3:
                return out.elements();
            case 4:
                return out.depth();
            case 5:
                return reading.machine == null ? 0 : reading.came;
            case 6:
                return reading.machine == null ? 0 : reading.now(Reader.DEPTH);
            case 7:
                return reading.machine == null ? 0 : reading.now(Reader.HELD);
            case 8:
                return reading.machine == null ? 0 : reading.now(Reader.MOST);
            case 9:
                return tape.length;
            default:
                return NONE;
        }
    }

    public int event(int i, boolean out) {
        return out ? this.out.signAt(i) : given.signAt(i);
    }

    public int take() {
        if (out.elements() > MOST_ELEMENTS) {
            return NONE;
        }
        given.become(out);
        return given.elements();
    }

    // ---- a reading, event by event

    public int begin(int k) {
        Machine m = told(k);
        if (m == null) {
            return NONE;
        }
        reading.start(m);
        return reading.now(Reader.STATE);
    }

    public int next(int event) {
        if (reading.machine == null || event < 0 || event > CLOSE) {
            return NONE;
        }
        int depth = reading.now(Reader.DEPTH);
        if (event == CLOSE && depth == 0) {
            return WRONG;
        }
        if (event != CLOSE && (depth >= MOST_DEPTH || reading.opens() >= MOST_OPENS)) {
            return WRONG;
        }
        return reading.step(event) ? reading.now(Reader.STATE) : NONE;
    }

    public int state() {
        return reading.machine == null ? NONE : reading.now(Reader.STATE);
    }

    public int held(int d, int register, int i) {
        Machine m = reading.machine;
        if (m == null || register < 0 || register >= m.registers || i < NONE) {
            return NONE;
        }
        int cell = reading.layingWith(d);
        if (cell == NONE) {
            return NONE;
        }
        return i == NONE ? reading.sizeOf(cell, register) : reading.signOf(cell, register, i);
    }

    public int finish() {
        if (reading.machine == null || !reading.canEnd()) {
            return NONE;
        }
        reading.write();
        out.receive(reading);
        reading.machine = null;
        return out.elements();
    }

    // ---- whole documents

    public int run(int k) {
        Machine m = told(k);
        if (m == null || front.refusal(m, given) != NONE) {
            return NONE;
        }
        front.write();
        out.receive(front);
        return out.elements();
    }

    public int through(int a, int b) {
        Machine one = told(a);
        Machine two = told(b);
        if (one == null || two == null || front.refusal(one, given) != NONE) {
            return NONE;
        }
        front.write();
        if (!behind.readBehind(two, front)) {
            return NONE;
        }
        behind.write();
        out.receive(behind);
        return out.elements();
    }

    public int refused(int k) {
        Machine m = told(k);
        return m == null ? WRONG : front.refusal(m, given);
    }

    public int ahead(int a, int b) {
        Machine one = told(a);
        Machine two = told(b);
        if (one == null || two == null) {
            return NONE;
        }
        if (front.refusal(one, given) != NONE) {
            return 0;
        }
        front.write();
        return scout.canReadBehind(two, front) ? 1 : 0;
    }

    public int peak(int k) {
        Machine m = told(k);
        if (m == null || front.refusal(m, given) != NONE) {
            return NONE;
        }
        return front.now(Reader.MOST);
    }

    // ---- machines

    public int bound(int k, int n) {
        Machine m = told(k);
        if (m == null || n < 0 || n > BOUND_LIMIT) {
            return NONE;
        }
        return n * m.mostOfClose + m.mostOfEnd;
    }

    public int states(int k) {
        Machine m = told(k);
        return m == null ? NONE : ways.reached(m);
    }

    public long many(int k, int n) {
        Machine m = told(k);
        if (m == null || n < 0 || n > MANY_LIMIT) {
            return NONE;
        }
        return ways.readable(m, n);
    }

    public int least(int k) {
        Machine m = told(k);
        return m == null ? NONE : ways.smallest(m);
    }

    public int differ(int a, int b, int n) {
        return found(search.fewest(told(a), told(b), n, false));
    }

    public int spoils(int a, int b, int n) {
        return found(search.fewest(told(a), told(b), n, true));
    }

    public int safe(int a, int b) {
        Machine one = told(a);
        Machine two = told(b);
        if (one == null || two == null) {
            return NONE;
        }
        if (one.states > SAFE_STATES || one.registers > SAFE_REGISTERS || two.states > SAFE_BEHIND) {
            return NONE;
        }
        return safety.neverSpoils(one, two) ? 1 : 0;
    }

    /** What a search found is THE DOCUMENT from now on. */
    private int found(int elements) {
        if (elements >= 0) {
            given.become(draft);
        }
        return elements;
    }

    private Machine told(int k) {
        return k >= 0 && k < machines.length ? machines[k] : null;
    }

    private int toldMachines() {
        int many = 0;
        for (int k = 0; k < machines.length; k++) {
            if (machines[k] != null) {
                many++;
            }
        }
        return many;
    }

    /** A MACHINE to tell anew. A READING keeps its own one, though another has come in its place. */
    private Machine unused() {
        for (int i = 0; i < stock.length; i++) {
            Machine m = stock[i];
            boolean used = m == reading.machine;
            for (int k = 0; k < machines.length; k++) {
                used = used || m == machines[k];
            }
            if (m != null && !used) {
                return m;
            }
        }
        return new Machine();
    }

    private static int at(int[] row, int i) {
        return i >= 0 && i < row.length ? row[i] : NONE;
    }

    private static void put(int[] row, int i, int value) {
        if (i >= 0 && i < row.length) {
            row[i] = value;
        }
    }

    /** What an OPEN lays on THE STACK, as one number: MARK and LETTER. */
    private static int laying(int letter, int mark) {
        return letter * MOST_MARKS + mark;
    }

    /** A row of EVENTS. */
    private static final class Events {
        private final int[] signs;
        private int size;

        Events(int elements) {
            signs = new int[2 * Math.max(0, elements)];
        }

        void clear() {
            size = 0;
        }

        void add(int sign) {
            if (size < signs.length) {
                signs[size] = sign;
                size++;
            }
        }

        /** Takes the last one away: which it was. */
        int drop() {
            if (size <= 0) {
                return NONE;
            }
            size--;
            return at(signs, size);
        }

        int size() {
            return size;
        }

        int signAt(int i) {
            return i >= 0 && i < size ? at(signs, i) : NONE;
        }

        int elements() {
            return size / 2;
        }

        int depth() {
            int depth = 0;
            int most = 0;
            for (int i = 0; i < size; i++) {
                depth += at(signs, i) == CLOSE ? -1 : 1;
                most = Math.max(most, depth);
            }
            return most;
        }

        void become(Events other) {
            size = 0;
            for (int i = 0; i < other.size; i++) {
                add(other.signAt(i));
            }
        }

        /** What a reader wrote. */
        void receive(Reader reader) {
            size = 0;
            int node = reader.first;
            for (int i = 0; i < reader.size; i++) {
                add(at(reader.signs, node));
                node = at(reader.links, node);
            }
        }
    }

    /** The RULES of a MACHINE. */
    private static final class Machine {
        private static final int LAYINGS = LETTERS * MOST_MARKS;
        private static final int MOST_EXPRESSIONS = MOST_RULES * MOST_REGISTERS;
        private static final int MOST_SIGNS = MOST_RULES * (2 * MOST_OWN + 2 * MOST_REGISTERS);

        private int states;
        private int registers;
        private int openRules;
        private int closeRules;
        private int endRules;
        private int mostOfClose;
        private int mostOfEnd;
        private final int[] openTo = new int[LETTERS * MOST_STATES];
        private final int[] openLays = new int[LETTERS * MOST_STATES];
        private final int[] closeTo = new int[LAYINGS * MOST_STATES];
        private final int[] closeTells = new int[LAYINGS * MOST_STATES];
        private final int[] endTells = new int[MOST_STATES];

        /** The EXPRESSIONS one behind another; starts has one place more than there are EXPRESSIONS. */
        private final int[] signs = new int[MOST_SIGNS];
        private final int[] starts = new int[MOST_EXPRESSIONS + 1];
        private int expressions;
        private int signCount;

        void clear() {
            openRules = 0;
            closeRules = 0;
            endRules = 0;
            mostOfClose = 0;
            mostOfEnd = 0;
            expressions = 0;
            signCount = 0;
            Arrays.fill(openTo, NONE);
            Arrays.fill(closeTo, NONE);
            Arrays.fill(endTells, NONE);
        }

        int rules() {
            return openRules + closeRules + endRules;
        }

        /** To which STATE the OPEN RULE goes; NONE: there is no such RULE. */
        int opensTo(int letter, int state) {
            int i = letter * MOST_STATES + state;
            return i >= 0 && i < openTo.length ? openTo[i] : NONE;
        }

        int lays(int letter, int state) {
            int i = letter * MOST_STATES + state;
            return i >= 0 && i < openLays.length ? openLays[i] : NONE;
        }

        /** To which STATE the CLOSE RULE goes; NONE: there is no such RULE. */
        int closesTo(int laid, int state) {
            int i = laid * MOST_STATES + state;
            return i >= 0 && i < closeTo.length ? closeTo[i] : NONE;
        }

        /** The first EXPRESSION of a CLOSE RULE; those of the REGISTERS behind 0 follow it. */
        int closeTells(int laid, int state) {
            return at(closeTells, laid * MOST_STATES + state);
        }

        /** The EXPRESSION of the END RULE; NONE: there is no such RULE. */
        int endTells(int state) {
            return at(endTells, state);
        }

        void addOpen(int letter, int state, int to, int mark) {
            put(openTo, letter * MOST_STATES + state, to);
            put(openLays, letter * MOST_STATES + state, laying(letter, mark));
            openRules++;
        }

        void addClose(int laid, int state, int to) {
            put(closeTo, laid * MOST_STATES + state, to);
            put(closeTells, laid * MOST_STATES + state, expressions);
            closeRules++;
        }

        void addEnd(int state) {
            put(endTells, state, expressions);
            endRules++;
        }

        void startExpression() {
            put(starts, expressions, signCount);
        }

        void addSign(int sign) {
            put(signs, signCount, sign);
            signCount++;
        }

        void stopExpression() {
            expressions++;
            put(starts, expressions, signCount);
        }
    }

    /** The TAPE, and the TOKENS of the text on it, one after another, up to its first FAULT. */
    private static final class Tape {
        private static final int OVER = 0;
        private static final int STRANGE = 1;
        private static final int NUMBER = '0';
        private static final int WORD = 'a';

        private static final int UNFIT = 1;
        private static final int OUTSIDE = 2;
        private static final int AGAIN = 3;
        private static final int TWICE = 4;
        private static final int TOO_MANY = 5;

        private final int[] bytes = new int[MOST_BYTES];
        private int length;

        /** The TOKEN that is looked at: its kind (a sign stands for itself) and place. */
        private int kind;
        private int start;
        private int stop;
        private int fault;

        boolean hasRoom() {
            return length + 20 <= MOST_BYTES;
        }

        void append(int number) {
            for (int shift = 24; shift >= 0; shift -= 8) {
                put(bytes, length, (number >>> shift) & 255);
                length++;
            }
        }

        void rewind() {
            start = 0;
            stop = 0;
            fault = 0;
        }

        /** A FAULT at the TOKEN that is looked at. The first one is kept. */
        void fail(int what) {
            if (fault == 0) {
                fault = what + 8 * start;
            }
        }

        /** Looks at the TOKEN behind; none are looked at behind a FAULT. */
        void advance() {
            if (fault != 0) {
                return;
            }
            int i = stop;
            while (i < length && (at(bytes, i) == 32 || at(bytes, i) == 10)) {
                i++;
            }
            start = i;
            kind = i < length ? kindOf(at(bytes, i)) : OVER;
            if (i < length) {
                i++;
            }
            if (kind == WORD || kind == NUMBER) {
                while (i < length && kindOf(at(bytes, i)) == kind) {
                    i++;
                }
            }
            stop = i;
        }

        private static int kindOf(int b) {
            if (b >= 'a' && b <= 'z') {
                return WORD;
            }
            if (b >= '0' && b <= '9') {
                return NUMBER;
            }
            boolean sign = b == ';' || b == '=' || b == ',' || b == '<' || b == '>';
            return sign ? b : STRANGE;
        }

        boolean isWord(String word) {
            if (kind != WORD || stop - start != word.length()) {
                return false;
            }
            for (int i = 0; i < word.length(); i++) {
                if (at(bytes, start + i) != word.charAt(i)) {
                    return false;
                }
            }
            return true;
        }

        /** The TOKEN behind must be a LETTER: which. */
        int letter() {
            advance();
            int letter = kind == WORD && stop - start == 1 ? at(bytes, start) - 'a' : NONE;
            if (letter < 0 || letter >= LETTERS) {
                fail(UNFIT);
                return NONE;
            }
            return letter;
        }

        /** The TOKEN behind must be one digit, of those from low to high: which. */
        int digit(int low, int high) {
            advance();
            if (kind != NUMBER || stop - start != 1) {
                fail(UNFIT);
                return NONE;
            }
            int value = at(bytes, start) - '0';
            if (value < low || value > high) {
                fail(OUTSIDE);
                return NONE;
            }
            return value;
        }

        /** The TOKEN behind must be this sign. */
        void sign(int wanted) {
            advance();
            if (kind != wanted) {
                fail(UNFIT);
            }
        }
    }

    /** Reads what the TAPE tells. */
    private static final class Texts {
        private final Tape tape;

        /** Of the RULE that is read: its own ELEMENTS, and each x and y that it has, as a bit. */
        private int own;
        private int seen;

        Texts(Tape tape) {
            this.tape = tape;
        }

        void readDocument(Events into) {
            int opens = 0;
            int depth = 0;
            into.clear();
            tape.rewind();
            tape.advance();
            for (int i = 0; i <= MOST_BYTES && tape.kind != Tape.OVER && tape.fault == 0; i++) {
                if (tape.kind == '<') {
                    if (opens >= MOST_ELEMENTS) {
                        tape.fail(Tape.TOO_MANY);
                    }
                    into.add(tape.letter());
                    opens++;
                    depth++;
                } else if (tape.kind == '>' && depth > 0) {
                    into.add(CLOSE);
                    depth--;
                } else {
                    tape.fail(Tape.UNFIT);
                }
                tape.advance();
            }
            if (depth > 0) {
                tape.fail(Tape.UNFIT);
            }
            tape.length = 0;
        }

        void readMachine(Machine m) {
            m.clear();
            tape.rewind();
            tape.advance();
            if (!tape.isWord("machine")) {
                tape.fail(Tape.UNFIT);
            }
            m.states = tape.digit(1, MOST_STATES);
            m.registers = tape.digit(1, MOST_REGISTERS);
            tape.advance();
            for (int i = 0; i <= MOST_BYTES && tape.kind == ';' && tape.fault == 0; i++) {
                startRule(m);
                if (tape.isWord("open")) {
                    readOpen(m);
                } else if (tape.isWord("close")) {
                    readClose(m);
                } else {
                    readEnd(m);
                }
            }
            if (tape.kind != Tape.OVER) {
                tape.fail(Tape.UNFIT);
            }
            tape.length = 0;
        }

        private void startRule(Machine m) {
            tape.advance();
            if (!tape.isWord("open") && !tape.isWord("close") && !tape.isWord("end")) {
                tape.fail(Tape.UNFIT);
            }
            if (m.rules() >= MOST_RULES) {
                tape.fail(Tape.TOO_MANY);
            }
            own = 0;
            seen = 0;
        }

        private void readOpen(Machine m) {
            int letter = tape.letter();
            int state = tape.digit(0, m.states - 1);
            if (m.opensTo(letter, state) != NONE) {
                tape.fail(Tape.AGAIN);
            }
            int to = tape.digit(0, m.states - 1);
            int mark = tape.digit(0, MOST_MARKS - 1);
            if (tape.fault == 0) {
                m.addOpen(letter, state, to, mark);
            }
            tape.advance();
        }

        private void readClose(Machine m) {
            int letter = tape.letter();
            int state = tape.digit(0, m.states - 1);
            int mark = tape.digit(0, MOST_MARKS - 1);
            int laid = laying(letter, mark);
            if (m.closesTo(laid, state) != NONE) {
                tape.fail(Tape.AGAIN);
            }
            int to = tape.digit(0, m.states - 1);
            tape.sign('=');
            if (tape.fault == 0) {
                m.addClose(laid, state, to);
            }
            for (int r = 0; r < m.registers && tape.fault == 0; r++) {
                if (r > 0 && tape.kind != ',') {
                    tape.fail(Tape.UNFIT);
                }
                readExpression(m, true);
            }
            m.mostOfClose = Math.max(m.mostOfClose, own);
        }

        private void readEnd(Machine m) {
            int state = tape.digit(0, m.states - 1);
            if (m.endTells(state) != NONE) {
                tape.fail(Tape.AGAIN);
            }
            tape.sign('=');
            if (tape.fault == 0) {
                m.addEnd(state);
                readExpression(m, false);
            }
            m.mostOfEnd = Math.max(m.mostOfEnd, own);
        }

        /** Comes to the TOKEN behind the EXPRESSION. */
        private void readExpression(Machine m, boolean stacked) {
            int depth = 0;
            boolean more = true;
            m.startExpression();
            tape.advance();
            for (int i = 0; i <= MOST_BYTES && more; i++) {
                if (tape.kind == '<') {
                    readElement(m);
                    depth++;
                } else if (tape.kind == '>' && depth > 0) {
                    m.addSign(CLOSE);
                    depth--;
                } else if (tape.isWord("x")) {
                    readRegister(m, X);
                } else if (stacked && tape.isWord("y")) {
                    readRegister(m, Y);
                } else {
                    more = false;
                }
                more = more && tape.fault == 0;
                if (more) {
                    tape.advance();
                }
            }
            if (depth > 0) {
                tape.fail(Tape.UNFIT);
            }
            m.stopExpression();
        }

        private void readElement(Machine m) {
            if (own >= MOST_OWN) {
                tape.fail(Tape.TOO_MANY);
            }
            own++;
            m.addSign(tape.letter());
        }

        private void readRegister(Machine m, int kind) {
            int register = tape.digit(0, m.registers - 1);
            if (register == NONE) {
                return;
            }
            int sign = kind + register;
            if (((seen >> sign) & 1) == 1) {
                tape.fail(Tape.TWICE);
            }
            seen |= 1 << sign;
            m.addSign(sign);
        }
    }

    /**
     * Reads by a MACHINE, EVENT by EVENT. All that it holds behind an EVENT stands in cells of that
     * EVENT's own, so that a step can be taken back. A row of a REGISTER is a chain of nodes, of
     * which the first, the last and the number are told: it is put behind another one by one link,
     * and what stands behind its last one is nothing of it. No row is in two places, so this is safe.
     */
    private static final class Reader {
        private static final int STATE = 0;
        private static final int DEPTH = 1;
        private static final int HELD = 2;
        private static final int MOST = 3;

        /** Where the cells begin that the last MARK's OPEN found, NONE without one; what it laid. */
        private static final int UNDER = 4;
        private static final int LAID = 5;
        private static final int USED = 6;

        /** Three cells for each REGISTER: first node, last node, how many. */
        private static final int ROWS = 7;
        private static final int LAST = 1;
        private static final int SIZE = 2;
        private static final int ROW_WIDTH = 3;
        private static final int WIDTH = ROWS + ROW_WIDTH * MOST_REGISTERS;

        private final int[] cells;
        private final int[] signs;
        private final int[] links;
        private int used;
        private Machine machine;
        private int came;

        /** The row that is put together, at last OUT. */
        private int first;
        private int last;
        private int size;

        Reader(int opens) {
            int most = Math.max(0, opens);
            cells = new int[(2 * most + 1) * WIDTH];
            signs = new int[2 * MOST_OWN * (most + 1)];
            links = new int[2 * MOST_OWN * (most + 1)];
        }

        void start(Machine m) {
            machine = m;
            came = 0;
            for (int i = 0; i < WIDTH; i++) {
                put(cells, i, 0);
            }
            put(cells, UNDER, NONE);
            put(cells, LAID, NONE);
        }

        int now(int what) {
            return at(cells, came * WIDTH + what);
        }

        int opens() {
            return (came + now(DEPTH)) / 2;
        }

        /** False, and nothing changes: REFUSED. */
        boolean step(int sign) {
            return sign == CLOSE ? stepOut() : stepIn(sign);
        }

        private boolean stepIn(int letter) {
            int now = came * WIDTH;
            int next = now + WIDTH;
            if (machine == null || now < 0 || next + WIDTH > cells.length) {
                return false;
            }
            int state = cells[now + STATE];
            int to = machine.opensTo(letter, state);
            if (to == NONE) {
                return false;
            }
            cells[next + STATE] = to;
            cells[next + DEPTH] = cells[now + DEPTH] + 1;
            cells[next + HELD] = cells[now + HELD];
            cells[next + MOST] = cells[now + MOST];
            cells[next + UNDER] = now;
            cells[next + LAID] = machine.lays(letter, state);
            cells[next + USED] = cells[now + USED];
            for (int row = ROWS; row < WIDTH; row += ROW_WIDTH) {
                cells[next + row + SIZE] = 0;
            }
            came++;
            return true;
        }

        private boolean stepOut() {
            int now = came * WIDTH;
            int next = now + WIDTH;
            if (machine == null || now < 0 || next + WIDTH > cells.length) {
                return false;
            }
            int under = cells[now + UNDER];
            int to = machine.closesTo(cells[now + LAID], cells[now + STATE]);
            if (under < 0 || under >= now || to == NONE) {
                return false;
            }
            cells[next + STATE] = to;
            cells[next + DEPTH] = cells[under + DEPTH];
            cells[next + UNDER] = cells[under + UNDER];
            cells[next + LAID] = cells[under + LAID];
            int tells = machine.closeTells(cells[now + LAID], cells[now + STATE]);
            int held = cells[now + HELD];
            used = cells[now + USED];
            for (int r = 0; r < machine.registers && r < MOST_REGISTERS; r++) {
                int row = ROWS + ROW_WIDTH * r;
                putTogether(tells + r, now, under);
                cells[next + row] = first;
                cells[next + row + LAST] = last;
                cells[next + row + SIZE] = size;
                held += (size - cells[now + row + SIZE] - cells[under + row + SIZE]) / 2;
            }
            cells[next + HELD] = held;
            cells[next + MOST] = Math.max(cells[now + MOST], held);
            cells[next + USED] = used;
            came++;
            return true;
        }

        void stepBack() {
            if (came > 0) {
                came--;
            }
        }

        boolean canEnd() {
            return machine != null && now(DEPTH) == 0 && machine.endTells(now(STATE)) != NONE;
        }

        /** Puts OUT together, where canEnd. */
        void write() {
            if (canEnd()) {
                used = now(USED);
                putTogether(machine.endTells(now(STATE)), came * WIDTH, came * WIDTH);
            }
        }

        /** The EVENT at which a MACHINE REFUSES; NONE: at none. */
        int refusal(Machine m, Events events) {
            start(m);
            for (int i = 0; i < events.size(); i++) {
                if (!step(events.signAt(i))) {
                    return i;
                }
            }
            return canEnd() ? NONE : events.size();
        }

        /** READ BEHIND another reader, that wrote: false: REFUSED. */
        boolean readBehind(Machine m, Reader other) {
            start(m);
            int node = other.first;
            for (int i = 0; i < other.size; i++) {
                if (!step(at(other.signs, node))) {
                    return false;
                }
                node = at(other.links, node);
            }
            return canEnd();
        }

        boolean wroteAlike(Reader other) {
            if (size != other.size) {
                return false;
            }
            int mine = first;
            int its = other.first;
            for (int i = 0; i < size; i++) {
                if (at(signs, mine) != at(other.signs, its)) {
                    return false;
                }
                mine = at(links, mine);
                its = at(other.links, its);
            }
            return true;
        }

        /** Where the cells begin of what lies with the d-th MARK from the last; d NONE: of what is now. */
        int layingWith(int d) {
            if (d < NONE || d >= now(DEPTH)) {
                return NONE;
            }
            int cell = came * WIDTH;
            for (int i = 0; i <= d; i++) {
                cell = at(cells, cell + UNDER);
            }
            return cell;
        }

        int sizeOf(int cell, int register) {
            return at(cells, cell + ROWS + ROW_WIDTH * register + SIZE);
        }

        int signOf(int cell, int register, int i) {
            if (i < 0 || i >= sizeOf(cell, register)) {
                return NONE;
            }
            int node = at(cells, cell + ROWS + ROW_WIDTH * register);
            for (int j = 0; j < i; j++) {
                node = at(links, node);
            }
            return at(signs, node);
        }

        /** What an EXPRESSION tells, of x that stands in the cells from now on and y from under on. */
        private void putTogether(int expression, int now, int under) {
            int stop = at(machine.starts, expression + 1);
            first = NONE;
            last = NONE;
            size = 0;
            for (int i = at(machine.starts, expression); i < stop; i++) {
                int sign = at(machine.signs, i);
                if (sign < X) {
                    put(signs, used, sign);
                    join(used, used, 1);
                    used++;
                } else {
                    int row = (sign < Y ? now : under) + ROWS + ROW_WIDTH * (sign & 3);
                    if (row >= 0 && row + SIZE < cells.length && cells[row + SIZE] > 0) {
                        join(cells[row], cells[row + LAST], cells[row + SIZE]);
                    }
                }
            }
        }

        /** A chain of nodes comes behind the row that is put together. */
        private void join(int from, int to, int many) {
            if (size == 0) {
                first = from;
            } else if (last >= 0 && last < links.length) {
                links[last] = from;
            }
            last = to;
            size += many;
        }
    }

    /** Whether a MACHINE can READ what a reader wrote, by STATES and MARKS alone: no row is put together. */
    private static final class Scout {
        private final int[] stack = new int[MOST_BETWEEN];

        boolean canReadBehind(Machine m, Reader writer) {
            int state = 0;
            int depth = 0;
            int node = writer.first;
            for (int i = 0; i < writer.size && state != NONE; i++) {
                int sign = at(writer.signs, node);
                node = at(writer.links, node);
                if (sign == CLOSE) {
                    depth--;
                    state = m.closesTo(at(stack, depth), state);
                } else {
                    put(stack, depth, m.lays(sign, state));
                    depth++;
                    state = m.opensTo(sign, state);
                }
            }
            return state != NONE && m.endTells(state) != NONE;
        }
    }

    /** Ways of a MACHINE from STATE to STATE by rows of ELEMENTS, THE STACK then as it was. */
    private static final class Ways {
        private static final int PAIRS = MOST_STATES * MOST_STATES;

        /** Above every true number of ELEMENTS: these stay below two to the thirtieth. */
        private static final long NO_WAY = 1L << 40;

        /** A shortest way has no pair of STATES within itself, so its parts go this deep at most. */
        private static final int ROUNDS = PAIRS + 1;

        private final long[] fewest = new long[PAIRS];

        /** By number of ELEMENTS, then by pair: ways of one ELEMENT with those within, of rows. */
        private final long[] single = new long[(MANY_LIMIT + 1) * PAIRS];
        private final long[] rows = new long[(MANY_LIMIT + 1) * PAIRS];

        int reached(Machine m) {
            measure(m);
            int bits = 1;
            for (int round = 0; round < MOST_STATES; round++) {
                for (int q = 0; q < MOST_STATES; q++) {
                    if (((bits >> q) & 1) == 1) {
                        bits |= reachedFrom(m, q);
                    }
                }
            }
            return bits;
        }

        private int reachedFrom(Machine m, int q) {
            int bits = 0;
            for (int r = 0; r < m.states; r++) {
                if (at(fewest, pair(q, r)) < NO_WAY) {
                    bits |= 1 << r;
                }
            }
            for (int letter = 0; letter < LETTERS; letter++) {
                int to = m.opensTo(letter, q);
                if (to != NONE) {
                    bits |= 1 << to;
                }
            }
            return bits;
        }

        int smallest(Machine m) {
            measure(m);
            long best = NO_WAY;
            for (int r = 0; r < m.states; r++) {
                if (m.endTells(r) != NONE) {
                    best = Math.min(best, at(fewest, pair(0, r)));
                }
            }
            return best < NO_WAY ? (int) best : NONE;
        }

        private void measure(Machine m) {
            for (int q = 0; q < MOST_STATES; q++) {
                for (int r = 0; r < MOST_STATES; r++) {
                    put(fewest, pair(q, r), q == r ? 0 : NO_WAY);
                }
            }
            boolean changed = true;
            for (int round = 0; round < ROUNDS && changed; round++) {
                changed = shorten(m);
            }
        }

        private boolean shorten(Machine m) {
            boolean changed = false;
            for (int q = 0; q < m.states; q++) {
                for (int letter = 0; letter < LETTERS; letter++) {
                    int in = m.opensTo(letter, q);
                    for (int t = 0; in != NONE && t < m.states; t++) {
                        int to = m.closesTo(m.lays(letter, q), t);
                        long within = at(fewest, pair(in, t));
                        if (to != NONE && within < NO_WAY && shortenBy(q, to, within + 1)) {
                            changed = true;
                        }
                    }
                }
            }
            return changed;
        }

        private boolean shortenBy(int q, int to, long elements) {
            boolean changed = false;
            for (int r = 0; r < MOST_STATES; r++) {
                long way = elements + at(fewest, pair(to, r));
                if (way < at(fewest, pair(q, r))) {
                    put(fewest, pair(q, r), way);
                    changed = true;
                }
            }
            return changed;
        }

        /** How many DOCUMENTS of n ELEMENTS can be READ: a DOCUMENT has one way at most. */
        long readable(Machine m, int n) {
            for (int q = 0; q < MOST_STATES; q++) {
                for (int r = 0; r < MOST_STATES; r++) {
                    put(rows, pair(q, r), q == r ? 1 : 0);
                }
            }
            for (int elements = 1; elements <= n; elements++) {
                countSingles(m, elements);
                for (int q = 0; q < m.states; q++) {
                    countRows(m, elements, q);
                }
            }
            long sum = 0;
            for (int r = 0; r < m.states; r++) {
                if (m.endTells(r) != NONE) {
                    sum += at(rows, n * PAIRS + pair(0, r));
                }
            }
            return sum;
        }

        private void countSingles(Machine m, int elements) {
            int here = elements * PAIRS;
            int before = here - PAIRS;
            for (int i = 0; i < PAIRS; i++) {
                put(single, here + i, 0);
            }
            for (int q = 0; q < m.states; q++) {
                for (int letter = 0; letter < LETTERS; letter++) {
                    int in = m.opensTo(letter, q);
                    for (int t = 0; in != NONE && t < m.states; t++) {
                        int to = m.closesTo(m.lays(letter, q), t);
                        if (to != NONE) {
                            int i = here + pair(q, to);
                            put(single, i, at(single, i) + at(rows, before + pair(in, t)));
                        }
                    }
                }
            }
        }

        /** Every row has a first ELEMENT and a row behind it. */
        private void countRows(Machine m, int elements, int q) {
            int here = elements * PAIRS;
            for (int r = 0; r < m.states; r++) {
                put(rows, here + pair(q, r), 0);
            }
            for (int size = 1; size <= elements; size++) {
                int rest = (elements - size) * PAIRS;
                for (int u = 0; u < m.states; u++) {
                    long ways = at(single, size * PAIRS + pair(q, u));
                    for (int r = 0; ways != 0 && r < m.states; r++) {
                        int i = here + pair(q, r);
                        put(rows, i, at(rows, i) + ways * at(rows, rest + pair(u, r)));
                    }
                }
            }
        }

        private static int pair(int q, int r) {
            return q * MOST_STATES + r;
        }

        private static long at(long[] row, int i) {
            return i >= 0 && i < row.length ? row[i] : 0;
        }

        private static void put(long[] row, int i, long value) {
            if (i >= 0 && i < row.length) {
                row[i] = value;
            }
        }
    }

    /** Goes through the DOCUMENTS in their order, EVENT by EVENT, past all that begin as one that is REFUSED. */
    private static final class Search {
        private static final int MOST_TURNS = 1000000;

        private final Reader front;
        private final Reader behind;
        private final Scout scout;
        private final Events path;
        private Machine second;
        private boolean spoiling;
        private int opens;

        Search(Reader front, Reader behind, Scout scout, Events path) {
            this.front = front;
            this.behind = behind;
            this.scout = scout;
            this.path = path;
        }

        /** The fewest ELEMENTS, at most n, of what is looked for: the path is the first such DOCUMENT. */
        int fewest(Machine one, Machine two, int n, boolean spoils) {
            if (one == null || two == null || n < 0 || n > LOOK_LIMIT) {
                return WRONG;
            }
            prepare(one, two, spoils);
            int elements = 0;
            int sign = 0;
            for (int turn = 0; turn < MOST_TURNS; turn++) {
                boolean whole = path.size() == 2 * elements;
                if (whole && (spoiling ? spoilt() : different())) {
                    return elements;
                }
                if (whole || sign > CLOSE || hopeless()) {
                    if (path.size() > 0) {
                        sign = goBack() + 1;
                    } else if (elements < n) {
                        elements++;
                        sign = 0;
                    } else {
                        return NONE;
                    }
                } else if (sign == CLOSE ? path.size() < 2 * opens : opens < elements) {
                    go(sign);
                    sign = 0;
                } else {
                    sign++;
                }
            }
            return NONE;
        }

        private void prepare(Machine one, Machine two, boolean spoils) {
            second = two;
            spoiling = spoils;
            opens = 0;
            path.clear();
            front.start(one);
            behind.start(two);
        }

        /** A reader that has REFUSED an EVENT of the path stands behind the path's end. */
        private boolean reads(Reader reader) {
            return reader.came == path.size();
        }

        private boolean hopeless() {
            return !reads(front) && (spoiling || !reads(behind));
        }

        private void go(int sign) {
            if (reads(front)) {
                front.step(sign);
            }
            if (!spoiling && reads(behind)) {
                behind.step(sign);
            }
            path.add(sign);
            if (sign != CLOSE) {
                opens++;
            }
        }

        private int goBack() {
            int sign = path.drop();
            if (sign != CLOSE) {
                opens--;
            }
            if (front.came > path.size()) {
                front.stepBack();
            }
            if (!spoiling && behind.came > path.size()) {
                behind.stepBack();
            }
            return sign;
        }

        private boolean spoilt() {
            if (!reads(front) || !front.canEnd()) {
                return false;
            }
            front.write();
            return !scout.canReadBehind(second, front);
        }

        private boolean different() {
            boolean one = reads(front) && front.canEnd();
            boolean two = reads(behind) && behind.canEnd();
            if (!one || !two) {
                return one != two;
            }
            front.write();
            behind.write();
            return !front.wroteAlike(behind);
        }
    }

    /** What rows of ELEMENTS are to a MACHINE of two STATES: to which STATE it comes by one, from each. */
    private static final class Kinds {
        /** A kind has two bits for each STATE; LOST is for a row that can't be READ from there. */
        private static final int LOST = 2;
        private static final int SAME = 4;
        private static final int BITS = 4;
        private static final int KINDS = 1 << BITS;

        private final int[] joined = new int[KINDS * KINDS];
        private final int[] around = new int[LETTERS * KINDS];

        Kinds() {
            for (int one = 0; one < KINDS; one++) {
                for (int two = 0; two < KINDS; two++) {
                    int kind = to(two, to(one, 0)) + (to(two, to(one, 1)) << 2);
                    joined[one * KINDS + two] = kind;
                }
            }
        }

        static int to(int kind, int state) {
            return state == 0 || state == 1 ? (kind >> (2 * state)) & 3 : LOST;
        }

        /** From now on it is about ELEMENTS to this MACHINE. */
        void learn(Machine m) {
            for (int letter = 0; letter < LETTERS; letter++) {
                for (int kind = 0; kind < KINDS; kind++) {
                    int first = passing(m, letter, kind, 0);
                    put(around, letter * KINDS + kind, first + (passing(m, letter, kind, 1) << 2));
                }
            }
        }

        private static int passing(Machine m, int letter, int within, int state) {
            int in = m.opensTo(letter, state);
            int last = in == NONE ? LOST : to(within, in);
            int out = last == LOST ? NONE : m.closesTo(m.lays(letter, state), last);
            return out == NONE ? LOST : out;
        }

        /** Of a row and another one behind it. */
        int join(int one, int two) {
            int i = one * KINDS + two;
            return i >= 0 && i < joined.length ? joined[i] : NONE;
        }

        /** Of one ELEMENT with a row within. */
        int wrap(int letter, int kind) {
            return at(around, letter * KINDS + kind);
        }
    }

    /**
     * Whether a first MACHINE never SPOILS for a second one. Of a row that a REGISTER holds, its kind
     * alone matters. So there are few SIGHTS that the first MACHINE can offer behind a row of ELEMENTS:
     * the STATE at the row's begin, the STATE at its end, the kind that each REGISTER holds then. All
     * that can be are found: by each two of them, one within an ELEMENT that comes behind the other.
     */
    private static final class Safety {
        private static final int BOTH_SAME = Kinds.SAME + (Kinds.SAME << Kinds.BITS);
        private static final int STATE_BIT = Kinds.BITS * SAFE_REGISTERS;
        private static final int BEGIN_BIT = STATE_BIT + 2;
        private static final int SIGHTS = 1 << (BEGIN_BIT + 2);

        /** Nine kinds for each of two REGISTERS. */
        private static final int MOST_FOUND = SAFE_STATES * SAFE_STATES * 81;

        private final Kinds kinds = new Kinds();
        private final boolean[] known = new boolean[SIGHTS];
        private final int[] found = new int[MOST_FOUND];
        private int many;

        /** Chains of those that were paired: the latest of each begin and of each STATE, and the one ahead of each. */
        private final int[] latestOfBegin = new int[SAFE_STATES];
        private final int[] latestOfState = new int[SAFE_STATES];
        private final int[] aheadByBegin = new int[MOST_FOUND];
        private final int[] aheadByState = new int[MOST_FOUND];

        private final int[] stack = new int[MOST_OWN];
        private final int[] letters = new int[MOST_OWN];
        private Machine one;
        private Machine two;

        boolean neverSpoils(Machine a, Machine b) {
            start(a, b);
            note(0, 0, BOTH_SAME);
            for (int i = 0; i < many && i < MOST_FOUND; i++) {
                int sight = at(found, i);
                if (spoilsAtEnd(sight)) {
                    return false;
                }
                put(aheadByBegin, i, at(latestOfBegin, beginOf(sight)));
                put(latestOfBegin, beginOf(sight), i);
                asOuter(sight);
                asInner(sight);
                put(aheadByState, i, at(latestOfState, stateOf(sight)));
                put(latestOfState, stateOf(sight), i);
            }
            return true;
        }

        private void start(Machine a, Machine b) {
            one = a;
            two = b;
            kinds.learn(b);
            many = 0;
            for (int i = 0; i < known.length; i++) {
                known[i] = false;
            }
            Arrays.fill(latestOfBegin, NONE);
            Arrays.fill(latestOfState, NONE);
        }

        private static int beginOf(int sight) {
            return sight >> BEGIN_BIT;
        }

        private static int stateOf(int sight) {
            return (sight >> STATE_BIT) & 3;
        }

        private void note(int begin, int state, int registers) {
            int sight = (begin << BEGIN_BIT) + (state << STATE_BIT) + registers;
            if (sight >= 0 && sight < known.length && !known[sight]) {
                known[sight] = true;
                put(found, many, sight);
                many++;
            }
        }

        /** Within an ELEMENT behind it: each that was paired, itself too, and the one of no ELEMENTS. */
        private void asOuter(int outer) {
            for (int letter = 0; letter < LETTERS; letter++) {
                int in = one.opensTo(letter, stateOf(outer));
                if (in != NONE) {
                    note(in, in, BOTH_SAME);
                    int laid = one.lays(letter, stateOf(outer));
                    int i = at(latestOfBegin, in);
                    for (int steps = 0; i != NONE && steps < MOST_FOUND; steps++) {
                        nest(outer, at(found, i), laid);
                        i = at(aheadByBegin, i);
                    }
                }
            }
        }

        /** Ahead of an ELEMENT that it is within: each that was paired. */
        private void asInner(int inner) {
            for (int state = 0; state < one.states; state++) {
                for (int letter = 0; letter < LETTERS; letter++) {
                    if (one.opensTo(letter, state) == beginOf(inner)) {
                        int laid = one.lays(letter, state);
                        int i = at(latestOfState, state);
                        for (int steps = 0; i != NONE && steps < MOST_FOUND; steps++) {
                            nest(at(found, i), inner, laid);
                            i = at(aheadByState, i);
                        }
                    }
                }
            }
        }

        private void nest(int outer, int inner, int laid) {
            int to = one.closesTo(laid, stateOf(inner));
            if (to == NONE) {
                return;
            }
            int tells = one.closeTells(laid, stateOf(inner));
            int second = one.registers == 1 ? Kinds.SAME : kindOf(tells + 1, outer, inner);
            note(beginOf(outer), to, kindOf(tells, outer, inner) + (second << Kinds.BITS));
        }

        private boolean spoilsAtEnd(int sight) {
            int tells = one.endTells(stateOf(sight));
            if (beginOf(sight) != 0 || tells == NONE) {
                return false;
            }
            int last = Kinds.to(kindOf(tells, sight, sight), 0);
            return last == Kinds.LOST || two.endTells(last) == NONE;
        }

        /** The kind of what an EXPRESSION tells, x of the inner one and y of the outer one. */
        private int kindOf(int expression, int outer, int inner) {
            int kind = Kinds.SAME;
            int depth = 0;
            int stop = at(one.starts, expression + 1);
            for (int i = at(one.starts, expression); i < stop; i++) {
                int sign = at(one.signs, i);
                if (sign < CLOSE) {
                    put(stack, depth, kind);
                    put(letters, depth, sign);
                    depth++;
                    kind = Kinds.SAME;
                } else if (sign == CLOSE) {
                    depth--;
                    kind = kinds.join(at(stack, depth), kinds.wrap(at(letters, depth), kind));
                } else {
                    int from = sign < Y ? inner : outer;
                    kind = kinds.join(kind, (from >> (Kinds.BITS * (sign & 3))) & (Kinds.KINDS - 1));
                }
            }
            return kind;
        }
    }
}
