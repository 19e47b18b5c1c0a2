/**
 * A checker of circuits of gates and latches against assertions about their trajectories, for all
 * values of the variables at once.
 *
 * <p>Each value is held on two rails, "is 1" and "is 0"; on neither it is X. A rail is a bit in a
 * long, one bit (a lane) for each assignment, so one step of a gate serves 64 assignments.
 */
public final class TrajectoryRails {
    public static final int REFUSED = -1, NONE = -2, FULL = -3;

    private static final int BYTES_A_FEED = 20;

    private final Tape tape;
    private final CircuitReader circuitReader;
    private final ClaimReader claimReader;
    private final Check check;
    // A text is read into the spare one, so that a fault leaves the other as it was.
    private Circuit circuitNow;
    private Circuit circuitSpare;
    private Claim claimNow;
    private Claim claimSpare;
    private boolean hasClaim;

    public TrajectoryRails() {
        tape = new Tape();
        Tokens tokens = new Tokens(tape);
        circuitReader = new CircuitReader(tokens);
        claimReader = new ClaimReader(tokens);
        check = new Check();
        circuitNow = new Circuit();
        circuitSpare = new Circuit();
        claimNow = new Claim();
        claimSpare = new Claim();
        hasClaim = false;
    }

    public int feed(int a, int b, int c, int d, int e) {
        if (tape.length > Tape.MOST - BYTES_A_FEED) {
            return FULL;
        }
        tape.put(a);
        tape.put(b);
        tape.put(c);
        tape.put(d);
        tape.put(e);
        return tape.length;
    }

    public int end(int n) {
        if (n < 0 || n > tape.length) {
            return REFUSED;
        }
        tape.length = n;
        return n;
    }

    public int circuit() {
        int fault = circuitReader.read(circuitSpare);
        tape.length = 0;
        if (fault != NONE) {
            return fault;
        }
        Circuit old = circuitNow;
        circuitNow = circuitSpare;
        circuitSpare = old;
        hasClaim = false;
        return NONE;
    }

    public int assertion() {
        int fault = claimReader.read(claimSpare, circuitNow);
        tape.length = 0;
        if (fault != NONE) {
            return fault;
        }
        Claim old = claimNow;
        claimNow = claimSpare;
        claimSpare = old;
        hasClaim = true;
        check.run(circuitNow, claimNow);
        return NONE;
    }

    public int fails() {
        return hasClaim ? check.howManyFail() : REFUSED;
    }

    public int excluded() {
        return hasClaim ? check.howManyAreOut() : REFUSED;
    }

    public int failing(int k) {
        return hasClaim && k >= 0 ? check.failingByRank(k) : NONE;
    }

    public int shortfall(int assignment, int what) {
        if (what != 0 && what != 1) {
            return REFUSED;
        }
        if (!hasClaim || !check.hasAssignment(assignment)) {
            return NONE;
        }
        return what == 0 ? check.firstWrongClause(assignment) : check.firstWrongTime(assignment);
    }

    public int value(int node, int time, int assignment) {
        if (!hasPlace(node, time) || !check.hasAssignment(assignment)) {
            return NONE;
        }
        return check.valueOf(node, time, assignment);
    }

    public int matters(int node, int time, int v) {
        if (!hasPlace(node, time) || v < 0 || v >= claimNow.variables) {
            return NONE;
        }
        return check.everMatters(node, time, v) ? 1 : 0;
    }

    public int cone(int node) {
        return circuitNow.hasNode(node) ? Long.bitCount(circuitNow.reach[node]) : NONE;
    }

    public int count(int what) {
        switch (what) {
            case 0:
                return circuitNow.size;
            case 1:
                return circuitNow.howMany(Circuit.INPUT);
            case 2:
                return circuitNow.howMany(Circuit.WIRE);
            case 3:
                return circuitNow.howMany(Circuit.LATCH);
            case 4:
                return hasClaim ? claimNow.variables : 0;
            case 5:
                return hasClaim ? claimNow.givens : 0;
            case 6:
                return hasClaim ? claimNow.clauses - claimNow.givens : 0;
            case 7:
                return hasClaim ? claimNow.last : 0;
            default:
                return REFUSED;
        }
    }

    private boolean hasPlace(int node, int time) {
        return hasClaim && circuitNow.hasNode(node) && time >= 0 && time <= claimNow.last;
    }

    /** The bytes that were fed and not read yet. */
    private static final class Tape {
        static final int MOST = 2000;

        private final byte[] bytes = new byte[MOST];
        int length;

        void put(int word) {
            for (int shift = 24; shift >= 0; shift -= 8) {
                if (length < MOST) {
                    bytes[length] = (byte) (word >> shift);
                    length++;
                }
            }
        }

        int byteAt(int i) {
            return bytes[i] & 255;
        }
    }

    /**
     * The tokens of the tape, END behind them. What is no token, or too long for one, is BAD. No
     * reader takes BAD or END, so one that can not go on always stands on the faulty token.
     */
    private static final class Tokens {
        // A sign is its own kind; these are below all signs.
        static final int END = 0, BAD = 1, NAME = 2, WORD = 3, VARIABLE = 4, NUMBER = 5;

        private static final int LONGEST_NAME = 8, LONGEST_VARIABLE = 4, LONGEST_NUMBER = 4;

        static final long INPUT = (long) 'i' << 32 | 'n' << 24 | 'p' << 16 | 'u' << 8 | 't';
        static final long WIRE = (long) 'w' << 24 | 'i' << 16 | 'r' << 8 | 'e';
        static final long LATCH = (long) 'l' << 32 | 'a' << 24 | 't' << 16 | 'c' << 8 | 'h';
        static final long GIVEN = (long) 'g' << 32 | 'i' << 24 | 'v' << 16 | 'e' << 8 | 'n';
        static final long THEN = (long) 't' << 24 | 'h' << 16 | 'e' << 8 | 'n';
        static final long IS = (long) 'i' << 8 | 's';
        static final long IF = (long) 'i' << 8 | 'f';
        static final long AT = (long) 'a' << 8 | 't';
        static final long TO = (long) 't' << 8 | 'o';

        private final Tape tape;
        // Each token has a byte of the tape of its own, so there is room for them and END.
        private final int[] kinds = new int[Tape.MOST + 1];
        private final int[] places = new int[Tape.MOST + 1];
        // The bytes of a token, the last one lowest: eight fit, and no allowed token is longer.
        private final long[] keys = new long[Tape.MOST + 1];
        private int size;
        private int cursor;

        Tokens(Tape tape) {
            this.tape = tape;
        }

        void scan() {
            size = 0;
            cursor = 0;
            int at = 0;
            while (at < tape.length) {
                int first = tape.byteAt(at);
                if (first == ' ' || first == '\n') {
                    at++;
                } else {
                    at = Math.max(at + 1, addToken(at, kindOf(first)));
                }
            }
            kinds[size] = END;
            places[size] = tape.length;
            size++;
        }

        /** Where the token that begins there stops. */
        private int addToken(int at, int kind) {
            int stop = stopOf(at, kind);
            long key = 0;
            for (int i = at; i < stop; i++) {
                key = key << 8 | tape.byteAt(i);
            }
            kinds[size] = kind;
            if (stop - at > longest(kind)) {
                kinds[size] = BAD;
            } else if (kind == NAME && isReserved(key)) {
                kinds[size] = WORD;
            }
            places[size] = at;
            keys[size] = key;
            size++;
            return stop;
        }

        private int stopOf(int at, int kind) {
            int stop = at + 1;
            while (stop < tape.length && goesOn(kind, tape.byteAt(stop))) {
                stop++;
            }
            return stop;
        }

        private static boolean goesOn(int kind, int next) {
            if (kind == NAME) {
                return isSmall(next) || isDigit(next) || next == '_';
            }
            if (kind == VARIABLE) {
                return isCapital(next) || isDigit(next);
            }
            return kind == NUMBER && isDigit(next);
        }

        private static int kindOf(int first) {
            if (isSmall(first)) {
                return NAME;
            }
            if (isCapital(first)) {
                return VARIABLE;
            }
            if (isDigit(first)) {
                return NUMBER;
            }
            switch (first) {
                case '=':
                case '&':
                case '|':
                case '^':
                case '!':
                case '(':
                case ')':
                case ';':
                case ',':
                case '.':
                    return first;
                default:
                    return BAD;
            }
        }

        private static int longest(int kind) {
            if (kind == NAME) {
                return LONGEST_NAME;
            }
            if (kind == VARIABLE) {
                return LONGEST_VARIABLE;
            }
            return kind == NUMBER ? LONGEST_NUMBER : 1;
        }

        private static boolean isReserved(long key) {
            return key == INPUT || key == WIRE || key == LATCH || key == GIVEN || key == THEN
                    || key == IS || key == IF || key == AT || key == TO;
        }

        private static boolean isSmall(int b) {
            return b >= 'a' && b <= 'z';
        }

        private static boolean isCapital(int b) {
            return b >= 'A' && b <= 'Z';
        }

        private static boolean isDigit(int b) {
            return b >= '0' && b <= '9';
        }

        int kind() {
            return kinds[cursor];
        }

        int place() {
            return places[cursor];
        }

        long key() {
            return keys[cursor];
        }

        int index() {
            return cursor;
        }

        int placeAt(int index) {
            return places[index];
        }

        long keyAt(int index) {
            return keys[index];
        }

        int number() {
            int number = 0;
            for (int shift = 24; shift >= 0; shift -= 8) {
                int digit = (int) (keys[cursor] >> shift) & 255;
                if (digit != 0) {
                    number = number * 10 + digit - '0';
                }
            }
            return number;
        }

        void step() {
            if (cursor < size - 1) {
                cursor++;
            }
        }
    }

    /**
     * Formulas one behind the other, each with its operators behind their operands. A step from 0
     * on is a leaf (a node or a variable, by number); below 0 it is a sign or a digit, negated.
     */
    private static final class Code {
        // Each step has a byte of the tape of its own.
        private final int[] steps = new int[Tape.MOST];
        int size;

        void add(int step) {
            if (size < steps.length) {
                steps[size] = step;
                size++;
            }
        }

        int at(int i) {
            return steps[i];
        }

        void set(int i, int step) {
            steps[i] = step;
        }
    }

    /** What the two kinds of text have in common: formulas, which differ in their leaves alone. */
    private abstract static class Reader {
        private static final int DEEPEST = 10, MOST_ATOMS = 300;
        // Of the signs: an open bracket, which only its other half sets free, is the weakest.
        private static final int BRACKET = 0, WEAKEST = 1;
        // Ten that are deep, and under each of them and under none one | and one ^ and one &.
        private static final int MOST_WAITING = 64;

        final Tokens tokens;
        Code code;
        private int atoms;
        // The signs whose operands are not all there yet, in the formula that is being taken.
        private final int[] waiting = new int[MOST_WAITING];
        private int waits;
        private int depth;

        Reader(Tokens tokens) {
            this.tokens = tokens;
        }

        /** Takes the token if it is a leaf that may stand here. */
        abstract boolean takeLeaf();

        final void begin(Code empty) {
            tokens.scan();
            atoms = 0;
            code = empty;
            code.size = 0;
        }

        final boolean takeSign(int sign) {
            if (tokens.kind() != sign) {
                return false;
            }
            tokens.step();
            return true;
        }

        final boolean takeWord(long word) {
            if (tokens.kind() != Tokens.WORD || tokens.key() != word) {
                return false;
            }
            tokens.step();
            return true;
        }

        final boolean takeFormula() {
            waits = 0;
            depth = 0;
            for (int n = 0; n < Tape.MOST; n++) {
                if (!takeOpeners() || !takeAtom()) {
                    return false;
                }
                takeClosers();
                int sign = tokens.kind();
                if (sign != '|' && sign != '^' && sign != '&') {
                    setFree(WEAKEST);
                    return waits == 0;
                }
                setFree(strengthOf(sign));
                letWait(sign);
                tokens.step();
            }
            return false;
        }

        private boolean takeOpeners() {
            for (int n = 0; n <= DEEPEST; n++) {
                int sign = tokens.kind();
                if (sign != '!' && sign != '(') {
                    return true;
                }
                if (depth >= DEEPEST) {
                    return false;
                }
                depth++;
                letWait(sign);
                tokens.step();
            }
            return false;
        }

        private void takeClosers() {
            for (int n = 0; n < DEEPEST && tokens.kind() == ')'; n++) {
                setFree(WEAKEST);
                if (waits == 0) {
                    return;
                }
                waits--;
                depth--;
                tokens.step();
            }
        }

        private void letWait(int sign) {
            if (waits < MOST_WAITING) {
                waiting[waits] = sign;
                waits++;
            }
        }

        private void setFree(int least) {
            while (waits > 0 && strengthOf(waiting[waits - 1]) >= least) {
                waits--;
                code.add(-waiting[waits]);
                if (waiting[waits] == '!') {
                    depth--;
                }
            }
        }

        private static int strengthOf(int sign) {
            switch (sign) {
                case '|':
                    return WEAKEST;
                case '^':
                    return 2;
                case '&':
                    return 3;
                case '!':
                    return 4;
                default:
                    return BRACKET;
            }
        }

        private boolean takeAtom() {
            if (atoms >= MOST_ATOMS) {
                return false;
            }
            atoms++;
            if (tokens.kind() != Tokens.NUMBER) {
                return takeLeaf();
            }
            // By the bytes, not by the number: 00 is no atom.
            if (tokens.key() != '0' && tokens.key() != '1') {
                return false;
            }
            code.add((int) -tokens.key());
            tokens.step();
            return true;
        }
    }

    /** Nodes with what they are made of, and what follows from that. */
    private static final class Circuit {
        static final int MOST = 40;
        static final int INPUT = 0, WIRE = 1, LATCH = 2;

        int size;
        private final long[] names = new long[MOST];
        final int[] kinds = new int[MOST];
        final int[] starts = new int[MOST];
        final int[] stops = new int[MOST];
        final Code code = new Code();
        // Sets of nodes as bits: all that a node depends on, and that by wires alone.
        final long[] reach = new long[MOST];
        private final long[] wireReach = new long[MOST];
        final int[] order = new int[MOST];

        boolean hasNode(int node) {
            return node >= 0 && node < size;
        }

        int find(long name) {
            for (int node = 0; node < size; node++) {
                if (names[node] == name) {
                    return node;
                }
            }
            return NONE;
        }

        int howMany(int kind) {
            int many = 0;
            for (int node = 0; node < size; node++) {
                if (kinds[node] == kind) {
                    many++;
                }
            }
            return many;
        }

        boolean declare(long name, int kind) {
            if (size >= MOST || find(name) != NONE) {
                return false;
            }
            names[size] = name;
            kinds[size] = kind;
            starts[size] = code.size;
            stops[size] = code.size;
            size++;
            return true;
        }

        void link() {
            long wires = 0;
            for (int node = 0; node < size; node++) {
                if (kinds[node] == WIRE) {
                    wires |= 1L << node;
                }
            }
            for (int node = 0; node < size; node++) {
                reach[node] = leavesOf(node);
                wireReach[node] = kinds[node] == WIRE ? reach[node] & wires : 0;
            }
            close(reach);
            close(wireReach);
            putInOrder();
        }

        private long leavesOf(int node) {
            long leaves = 0;
            for (int i = starts[node]; i < stops[node]; i++) {
                if (code.at(i) >= 0) {
                    leaves |= 1L << code.at(i);
                }
            }
            return leaves;
        }

        private void close(long[] sets) {
            for (int via = 0; via < size; via++) {
                for (int node = 0; node < size; node++) {
                    if ((sets[node] >> via & 1) == 1) {
                        sets[node] |= sets[via];
                    }
                }
            }
        }

        int firstLoop() {
            for (int node = 0; node < size; node++) {
                if ((wireReach[node] >> node & 1) == 1) {
                    return node;
                }
            }
            return NONE;
        }

        // Without loops a wire reaches all that its parts reach and the parts too, so it has more.
        private void putInOrder() {
            int placed = 0;
            for (int rank = 0; rank <= size; rank++) {
                for (int node = 0; node < size; node++) {
                    if (rankOf(node) == rank) {
                        order[placed] = node;
                        placed++;
                    }
                }
            }
        }

        private int rankOf(int node) {
            return kinds[node] == WIRE ? 1 + Long.bitCount(wireReach[node]) : 0;
        }
    }

    private static final class CircuitReader extends Reader {
        private Circuit circuit;
        private final int[] places = new int[Circuit.MOST];

        CircuitReader(Tokens tokens) {
            super(tokens);
        }

        /** The fault, or NONE. */
        int read(Circuit target) {
            circuit = target;
            circuit.size = 0;
            begin(circuit.code);
            for (int n = 0; n < Tape.MOST && tokens.kind() != Tokens.END; n++) {
                if (!takeItem()) {
                    return tokens.place();
                }
            }
            int unknown = putNodesForNames();
            if (unknown != NONE) {
                return unknown;
            }
            circuit.link();
            int loop = circuit.firstLoop();
            return loop == NONE ? NONE : places[loop];
        }

        private boolean takeItem() {
            if (takeWord(Tokens.INPUT)) {
                return takeInputs();
            }
            if (takeWord(Tokens.WIRE)) {
                return takeMade(Circuit.WIRE);
            }
            return takeWord(Tokens.LATCH) && takeMade(Circuit.LATCH);
        }

        private boolean takeInputs() {
            boolean more = true;
            for (int n = 0; n <= Circuit.MOST && more; n++) {
                if (!takeDeclared(Circuit.INPUT)) {
                    return false;
                }
                more = takeSign(',');
            }
            return takeSign(';');
        }

        private boolean takeMade(int kind) {
            if (!takeDeclared(kind) || !takeSign('=')) {
                return false;
            }
            int node = circuit.size - 1;
            if (!takeFormula()) {
                return false;
            }
            circuit.stops[node] = code.size;
            return takeSign(';');
        }

        private boolean takeDeclared(int kind) {
            if (tokens.kind() != Tokens.NAME || !circuit.declare(tokens.key(), kind)) {
                return false;
            }
            places[circuit.size - 1] = tokens.place();
            tokens.step();
            return true;
        }

        // The name may be declared later on, so its token stands in for the node.
        boolean takeLeaf() {
            if (tokens.kind() != Tokens.NAME) {
                return false;
            }
            code.add(tokens.index());
            tokens.step();
            return true;
        }

        // Operands keep their order in the code, so the first one found is the first of the text.
        private int putNodesForNames() {
            for (int i = 0; i < code.size; i++) {
                int token = code.at(i);
                if (token >= 0) {
                    int node = circuit.find(tokens.keyAt(token));
                    if (node == NONE) {
                        return tokens.placeAt(token);
                    }
                    code.set(i, node);
                }
            }
            return NONE;
        }
    }

    /** An assertion: its clauses, those that are given first. */
    private static final class Claim {
        static final int MOST_A_PART = 24, MOST = 48, MOST_VARIABLES = 9, TIMES = 12;

        int variables;
        private final long[] names = new long[MOST_VARIABLES];
        int givens;
        int clauses;
        int last;
        final int[] nodes = new int[MOST];
        final int[] froms = new int[MOST];
        final int[] tos = new int[MOST];
        // In the code: where its is starts and where its if does, which is the stop without one.
        final int[] starts = new int[MOST];
        final int[] ifs = new int[MOST];
        final int[] stops = new int[MOST];
        final Code code = new Code();

        void clear() {
            variables = 0;
            givens = 0;
            clauses = 0;
            last = 0;
        }

        /** The number of the variable, which is new or not; NONE if it is one too much. */
        int variable(long name) {
            for (int v = 0; v < variables; v++) {
                if (names[v] == name) {
                    return v;
                }
            }
            if (variables >= MOST_VARIABLES) {
                return NONE;
            }
            names[variables] = name;
            variables++;
            return variables - 1;
        }

        void setTimes(int clause, int from, int to) {
            froms[clause] = from;
            tos[clause] = to;
            last = Math.max(last, to);
        }
    }

    private static final class ClaimReader extends Reader {
        private Claim claim;
        private Circuit circuit;

        ClaimReader(Tokens tokens) {
            super(tokens);
        }

        /** The fault, or NONE. */
        int read(Claim target, Circuit about) {
            claim = target;
            circuit = about;
            claim.clear();
            begin(claim.code);
            boolean fine = takeWord(Tokens.GIVEN) && takeClauses();
            claim.givens = claim.clauses;
            fine = fine && takeWord(Tokens.THEN) && takeClauses();
            fine = fine && takeSign('.') && tokens.kind() == Tokens.END;
            return fine ? NONE : tokens.place();
        }

        private boolean takeClauses() {
            for (int n = 0; n < Claim.MOST_A_PART; n++) {
                if (!takeClause()) {
                    return false;
                }
                if (!takeSign(',')) {
                    return true;
                }
            }
            return false;
        }

        private boolean takeClause() {
            int node = tokens.kind() == Tokens.NAME ? circuit.find(tokens.key()) : NONE;
            if (node == NONE) {
                return false;
            }
            tokens.step();
            int clause = claim.clauses;
            claim.clauses++;
            claim.nodes[clause] = node;
            claim.starts[clause] = code.size;
            if (!takeWord(Tokens.IS) || !takeFormula()) {
                return false;
            }
            claim.ifs[clause] = code.size;
            if (takeWord(Tokens.IF) && !takeFormula()) {
                return false;
            }
            claim.stops[clause] = code.size;
            return takeTimes(clause);
        }

        private boolean takeTimes(int clause) {
            if (!takeWord(Tokens.AT)) {
                claim.setTimes(clause, 0, 0);
                return true;
            }
            int from = takeTime(0);
            if (from == NONE) {
                return false;
            }
            int to = takeWord(Tokens.TO) ? takeTime(from) : from;
            if (to == NONE) {
                return false;
            }
            claim.setTimes(clause, from, to);
            return true;
        }

        private int takeTime(int least) {
            if (tokens.kind() != Tokens.NUMBER) {
                return NONE;
            }
            int time = tokens.number();
            if (time < least || time >= Claim.TIMES) {
                return NONE;
            }
            tokens.step();
            return time;
        }

        boolean takeLeaf() {
            int variable = tokens.kind() == Tokens.VARIABLE ? claim.variable(tokens.key()) : NONE;
            if (variable == NONE) {
                return false;
            }
            code.add(variable);
            tokens.step();
            return true;
        }
    }

    /** Works out formulas on 64 lanes at once. */
    private static final class Stack {
        // Under each of ten brackets at most three operands wait, one for each kind of operator.
        private static final int MOST = 64;

        private final long[] ones = new long[MOST];
        private final long[] zeros = new long[MOST];
        private int size;

        /** Leaf n is found at base + n on the rails. */
        void run(Code code, int start, int stop, long[] leafOnes, long[] leafZeros, int base) {
            size = 0;
            for (int i = start; i < stop; i++) {
                int step = code.at(i);
                if (step >= 0) {
                    push(leafOnes[base + step], leafZeros[base + step]);
                } else {
                    apply(-step);
                }
            }
        }

        long ones() {
            return size > 0 ? ones[size - 1] : 0;
        }

        long zeros() {
            return size > 0 ? zeros[size - 1] : 0;
        }

        private void push(long one, long zero) {
            if (size < MOST) {
                ones[size] = one;
                zeros[size] = zero;
                size++;
            }
        }

        private void apply(int sign) {
            if (sign == '0') {
                push(0, -1);
            } else if (sign == '1') {
                push(-1, 0);
            } else if (sign == '!') {
                invert();
            } else {
                join(sign);
            }
        }

        private void invert() {
            if (size < 1) {
                return;
            }
            long one = ones[size - 1];
            ones[size - 1] = zeros[size - 1];
            zeros[size - 1] = one;
        }

        private void join(int sign) {
            if (size < 2) {
                return;
            }
            size--;
            long a1 = ones[size - 1];
            long a0 = zeros[size - 1];
            long b1 = ones[size];
            long b0 = zeros[size];
            if (sign == '&') {
                ones[size - 1] = a1 & b1;
                zeros[size - 1] = a0 | b0;
            } else if (sign == '|') {
                ones[size - 1] = a1 | b1;
                zeros[size - 1] = a0 & b0;
            } else {
                ones[size - 1] = (a1 & b0) | (a0 & b1);
                zeros[size - 1] = (a1 & b1) | (a0 & b0);
            }
        }
    }

    /** The trajectories of all assignments, and what the assertion makes of them. */
    private static final class Check {
        private static final int LANE_BITS = 6, LANES = 64, WORDS = 8;
        // Which lanes have the bit 0, 1, .. of their number set.
        private static final long[] LANES_WITH = {
            0xAAAAAAAAAAAAAAAAL, 0xCCCCCCCCCCCCCCCCL, 0xF0F0F0F0F0F0F0F0L,
            0xFF00FF00FF00FF00L, 0xFFFF0000FFFF0000L, 0xFFFFFFFF00000000L
        };

        private Circuit circuit;
        private Claim claim;
        private int assignments;
        private int words;
        // Of the lanes of a word, those that are assignments: less than all below six variables.
        private long lanesUsed;
        private final Stack stack = new Stack();
        private final long[] variableOnes = new long[Claim.MOST_VARIABLES];
        private final long[] variableZeros = new long[Claim.MOST_VARIABLES];
        private final long[] says = new long[Claim.MOST * WORDS];
        private final long[] holds = new long[Claim.MOST * WORDS];
        private final long[] ones = new long[WORDS * Claim.TIMES * Circuit.MOST];
        private final long[] zeros = new long[WORDS * Claim.TIMES * Circuit.MOST];
        private final long[] out = new long[WORDS];
        private final long[] failed = new long[WORDS];

        void run(Circuit ofNodes, Claim ofClauses) {
            circuit = ofNodes;
            claim = ofClauses;
            assignments = 1 << claim.variables;
            words = Math.max(1, assignments >> LANE_BITS);
            lanesUsed = claim.variables < LANE_BITS ? (1L << assignments) - 1 : -1L;
            for (int word = 0; word < words; word++) {
                setVariables(word);
                workOutClauses(word);
                layGivens(word);
                follow(word);
                compare(word);
            }
        }

        private static int clauseRow(int word, int clause) {
            return word * Claim.MOST + clause;
        }

        private static int row(int word, int time) {
            return (word * Claim.TIMES + time) * Circuit.MOST;
        }

        private static long lanesWith(int bit, int word) {
            if (bit < LANE_BITS) {
                return LANES_WITH[bit];
            }
            return (word >> (bit - LANE_BITS) & 1) == 1 ? -1L : 0L;
        }

        private int bitOf(int variable) {
            return claim.variables - 1 - variable;
        }

        private void setVariables(int word) {
            for (int v = 0; v < claim.variables; v++) {
                variableOnes[v] = lanesWith(bitOf(v), word);
                variableZeros[v] = ~variableOnes[v];
            }
        }

        private void workOutClauses(int word) {
            for (int clause = 0; clause < claim.clauses; clause++) {
                int isStart = claim.starts[clause];
                int ifStart = claim.ifs[clause];
                int stop = claim.stops[clause];
                int row = clauseRow(word, clause);
                stack.run(claim.code, isStart, ifStart, variableOnes, variableZeros, 0);
                says[row] = stack.ones();
                stack.run(claim.code, ifStart, stop, variableOnes, variableZeros, 0);
                holds[row] = ifStart < stop ? stack.ones() : -1L;
            }
        }

        // What is given is on the rails before the nodes' own values join it there: a lane that
        // has both rails then is one where two of them differ.
        private void layGivens(int word) {
            for (int at = row(word, 0); at < row(word, claim.last + 1); at++) {
                ones[at] = 0;
                zeros[at] = 0;
            }
            for (int clause = 0; clause < claim.givens; clause++) {
                long said = says[clauseRow(word, clause)];
                long held = holds[clauseRow(word, clause)];
                for (int time = claim.froms[clause]; time <= claim.tos[clause]; time++) {
                    int at = row(word, time) + claim.nodes[clause];
                    ones[at] |= held & said;
                    zeros[at] |= held & ~said;
                }
            }
        }

        private void follow(int word) {
            long both = 0;
            for (int time = 0; time <= claim.last; time++) {
                for (int n = 0; n < circuit.size; n++) {
                    int node = circuit.order[n];
                    joinOwn(node, time, word);
                    int at = row(word, time) + node;
                    both |= ones[at] & zeros[at];
                }
            }
            out[word] = both & lanesUsed;
        }

        private void joinOwn(int node, int time, int word) {
            int kind = circuit.kinds[node];
            if (kind == Circuit.INPUT || (kind == Circuit.LATCH && time == 0)) {
                return;
            }
            int from = row(word, kind == Circuit.LATCH ? time - 1 : time);
            stack.run(circuit.code, circuit.starts[node], circuit.stops[node], ones, zeros, from);
            int at = row(word, time) + node;
            ones[at] |= stack.ones();
            zeros[at] |= stack.zeros();
        }

        private void compare(int word) {
            long wrong = 0;
            for (int clause = claim.givens; clause < claim.clauses; clause++) {
                for (int time = claim.froms[clause]; time <= claim.tos[clause]; time++) {
                    wrong |= wrongLanes(clause, time, word);
                }
            }
            failed[word] = wrong & ~out[word] & lanesUsed;
        }

        private long wrongLanes(int clause, int time, int word) {
            long said = says[clauseRow(word, clause)];
            int at = row(word, time) + claim.nodes[clause];
            long met = (said & ones[at]) | (~said & zeros[at]);
            return holds[clauseRow(word, clause)] & ~met;
        }

        boolean hasAssignment(int assignment) {
            return assignment >= 0 && assignment < assignments;
        }

        int howManyFail() {
            return lanesIn(failed);
        }

        int howManyAreOut() {
            return lanesIn(out);
        }

        private int lanesIn(long[] rows) {
            int many = 0;
            for (int word = 0; word < words; word++) {
                many += Long.bitCount(rows[word]);
            }
            return many;
        }

        int failingByRank(int rank) {
            int left = rank;
            for (int word = 0; word < words; word++) {
                int here = Long.bitCount(failed[word]);
                if (left < here) {
                    return word * LANES + laneByRank(failed[word], left);
                }
                left -= here;
            }
            return NONE;
        }

        private static int laneByRank(long lanes, int rank) {
            long rest = lanes;
            for (int n = 0; n < rank; n++) {
                rest &= rest - 1;
            }
            return Long.bitCount((rest & -rest) - 1);
        }

        // The assignment must be one of this check, here and below.
        private static boolean isIn(long lanes, int assignment) {
            return (lanes >> (assignment % LANES) & 1) == 1;
        }

        int firstWrongClause(int assignment) {
            int word = assignment / LANES;
            if (!isIn(failed[word], assignment)) {
                return NONE;
            }
            for (int clause = claim.givens; clause < claim.clauses; clause++) {
                if (wrongTime(clause, assignment) != NONE) {
                    return clause - claim.givens;
                }
            }
            return NONE;
        }

        int firstWrongTime(int assignment) {
            int clause = firstWrongClause(assignment);
            return clause == NONE ? NONE : wrongTime(claim.givens + clause, assignment);
        }

        private int wrongTime(int clause, int assignment) {
            for (int time = claim.froms[clause]; time <= claim.tos[clause]; time++) {
                if (isIn(wrongLanes(clause, time, assignment / LANES), assignment)) {
                    return time;
                }
            }
            return NONE;
        }

        int valueOf(int node, int time, int assignment) {
            int word = assignment / LANES;
            int at = row(word, time) + node;
            if (isIn(out[word], assignment)) {
                return 3;
            }
            if (isIn(ones[at], assignment)) {
                return 1;
            }
            return isIn(zeros[at], assignment) ? 0 : 2;
        }

        boolean everMatters(int node, int time, int variable) {
            for (int word = 0; word < words; word++) {
                if (changedLanes(row(0, time) + node, word, bitOf(variable)) != 0) {
                    return true;
                }
            }
            return false;
        }

        // The lanes without the bit whose partner, which has it, has another value. The partner
        // is in the same word some lanes on, or in the same lane some words on.
        private long changedLanes(int place, int word, int bit) {
            int lanesOn = bit < LANE_BITS ? 1 << bit : 0;
            int partner = bit < LANE_BITS ? word : word | 1 << (bit - LANE_BITS);
            int here = row(word, 0) + place;
            int there = row(partner, 0) + place;
            long changed = ones[here] ^ (ones[there] >>> lanesOn);
            changed |= zeros[here] ^ (zeros[there] >>> lanesOn);
            long gone = out[word] | (out[partner] >>> lanesOn);
            return changed & ~gone & ~lanesWith(bit, word) & lanesUsed;
        }
    }
}
