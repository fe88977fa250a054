import java.util.Arrays;

/** Circuits of words made into a net of two-input gates, and what it does clock by clock. */
public final class CircuitDesk {
    public static final int REFUSED = -1;
    public static final int NONE = -2;
    public static final int FULL = -3;
    public static final int OPEN = -4;
    public static final int UNSET = -5;
    public static final int LOOP = -6;

    private static final int MOST_SIGNALS = 14;
    private static final int MOST_WIDTH = 8;
    private static final int MOST_STATEMENTS = 20;
    private static final int MOST_WHENS_AROUND = 4;
    private static final int MOST_RESET = 255;
    private static final int MOST_CLOCKS_A_CALL = 30;

    private static final int KIND_INPUT = 0;
    private static final int KIND_WIRE = 1;
    private static final int KIND_REGISTER = 2;
    private static final int KIND_NODE = 3;

    private static final int OP_NOT = 0;
    private static final int OP_AND = 1;
    private static final int OP_OR = 2;
    private static final int OP_XOR = 3;
    private static final int OP_ADD = 4;
    private static final int OP_SUB = 5;
    private static final int OP_EQUAL = 6;
    private static final int OP_LESS = 7;
    private static final int OP_JOIN = 8;
    private static final int OP_PART = 9;
    private static final int OP_CHOOSE = 10;
    private static final int OP_CONSTANT = 11;

    /** How many of a, b and c are SIGNALS, for each OP. */
    private static final int[] SIGNALS_OF_OP = {1, 2, 2, 2, 2, 2, 2, 2, 2, 1, 3, 0};

    private static final int SORT_SET = 0;
    private static final int SORT_WHEN = 1;
    private static final int SORT_ELSE = 2;
    private static final int SORT_END = 3;

    private static final int FALSE = 0;
    private static final int TRUE = 1;

    private final Signals signals;
    private final Statements statements;
    private final Checks checks;
    private final Net net;
    private final NetMaker maker;
    private final int[] nextWords;
    private boolean ready;
    private int faultySignal;
    private int clocksDone;

    public CircuitDesk() {
        signals = new Signals();
        statements = new Statements();
        checks = new Checks(signals, statements);
        net = new Net();
        maker = new NetMaker(signals, statements, checks, net);
        nextWords = new int[MOST_SIGNALS];
        faultySignal = NONE;
    }

    public int signal(int kind, int width, int reset) {
        if (kind < KIND_INPUT || kind > KIND_REGISTER || width < 1 || width > MOST_WIDTH) {
            return REFUSED;
        }
        if (kind == KIND_REGISTER && (reset < 0 || reset > MOST_RESET)) {
            return REFUSED;
        }
        if (signals.size == MOST_SIGNALS) {
            return FULL;
        }
        ready = false;
        return signals.addPlain(kind, width, reset);
    }

    public int node(int op, int a, int b, int c) {
        if (op < OP_NOT || op > OP_CONSTANT || !signals.hasAll(SIGNALS_OF_OP[op], a, b, c)) {
            return REFUSED;
        }
        int width = signals.widthOfNode(op, a, b, c);
        if (width < 1 || width > MOST_WIDTH) {
            return REFUSED;
        }
        if (signals.size == MOST_SIGNALS) {
            return FULL;
        }
        ready = false;
        int s = signals.addPlain(KIND_NODE, width, 0);
        signals.describeNode(s, op, a, b, c);
        return s;
    }

    public int state(int sort, int s, int a) {
        int answer;
        if (sort == SORT_SET) {
            answer = signals.isSink(s) && signals.has(a) ? statements.addSet(s, a) : REFUSED;
        } else if (sort == SORT_WHEN) {
            answer = signals.has(s) && signals.width[s] == 1 ? statements.addWhen(s) : REFUSED;
        } else if (sort == SORT_ELSE) {
            answer = statements.addElse();
        } else if (sort == SORT_END) {
            answer = statements.addEnd();
        } else {
            answer = REFUSED;
        }
        if (answer >= 0) {
            ready = false;
        }
        return answer;
    }

    public int clear(int what) {
        if (what != 0 && what != 1) {
            return REFUSED;
        }
        int before = statements.size;
        statements.removeAll();
        if (what == 1) {
            signals.size = 0;
        }
        ready = false;
        return before;
    }

    public int compile() {
        faultySignal = NONE;
        if (statements.openWhens > 0) {
            return OPEN;
        }
        int unset = checks.leastUnsetWire();
        if (unset != NONE) {
            faultySignal = unset;
            return UNSET;
        }
        int looped = checks.leastInLoop();
        if (looped != NONE) {
            faultySignal = looped;
            return LOOP;
        }
        maker.makeNet();
        ready = true;
        startAnew();
        return net.gates;
    }

    public int where() {
        return faultySignal;
    }

    public int input(int s, int v) {
        if (!ready || !signals.has(s) || signals.kind[s] != KIND_INPUT) {
            return NONE;
        }
        int word = v & maskOf(signals.width[s]);
        net.putWord(s, word);
        return word;
    }

    public int clock(int n) {
        if (n < 1 || n > MOST_CLOCKS_A_CALL) {
            return REFUSED;
        }
        if (!ready) {
            return NONE;
        }
        for (int i = 0; i < n; i++) {
            clockOnce();
        }
        clocksDone += n;
        return clocksDone;
    }

    public boolean reset() {
        if (ready) {
            startAnew();
        }
        return ready;
    }

    public int value(int s, boolean next) {
        if (!ready || !signals.has(s)) {
            return NONE;
        }
        boolean ofNext = next && signals.kind[s] == KIND_REGISTER;
        net.settle();
        return net.wordOf(ofNext ? maker.nextBits : maker.bits, s, signals.width[s]);
    }

    public int tell(int s, int what) {
        if (what < 0 || what > 4) {
            return REFUSED;
        }
        if (!signals.has(s)) {
            return NONE;
        }
        if (what == 0) {
            return signals.kind[s];
        }
        if (what == 1) {
            return signals.width[s];
        }
        if (what == 2) {
            return signals.kind[s] == KIND_NODE ? signals.op[s] : NONE;
        }
        if (!ready) {
            return NONE;
        }
        return what == 3 ? maker.fixedBitsOf(s) : maker.depthOf(s);
    }

    public int count(int what) {
        switch (what) {
            case 0:
                return signals.size;
            case 1:
                return statements.size;
            case 2:
                return ready ? 1 : 0;
            case 3:
                return ready ? net.gates : NONE;
            case 4:
                return ready ? net.greatestDepth : NONE;
            case 5:
                return ready ? net.gatesAtOne() : NONE;
            case 6:
                return ready ? clocksDone : NONE;
            case 7:
                return statements.openWhens;
            default:
                return REFUSED;
        }
    }

    private void startAnew() {
        for (int s = 0; s < signals.size; s++) {
            if (signals.kind[s] == KIND_REGISTER) {
                net.putWord(s, signals.resetWord[s]);
            } else if (signals.kind[s] == KIND_INPUT) {
                net.putWord(s, 0);
            }
        }
        clocksDone = 0;
    }

    /** All NEXT words are read before the first one is put, since REGISTERS change at once. */
    private void clockOnce() {
        net.settle();
        for (int s = 0; s < signals.size; s++) {
            if (signals.kind[s] == KIND_REGISTER) {
                nextWords[s] = net.wordOf(maker.nextBits, s, signals.width[s]);
            }
        }
        for (int s = 0; s < signals.size; s++) {
            if (signals.kind[s] == KIND_REGISTER) {
                net.putWord(s, nextWords[s]);
            }
        }
    }

    private static int maskOf(int width) {
        return (1 << width) - 1;
    }

    /** The SIGNALS, each a place in rows; what a row says of another KIND is never looked at. */
    private static final class Signals {
        final int[] kind = new int[MOST_SIGNALS];
        final int[] width = new int[MOST_SIGNALS];
        final int[] resetWord = new int[MOST_SIGNALS];
        final int[] op = new int[MOST_SIGNALS];
        final int[] a = new int[MOST_SIGNALS];
        final int[] b = new int[MOST_SIGNALS];
        final int[] c = new int[MOST_SIGNALS];
        int size;

        boolean has(int s) {
            return s >= 0 && s < size;
        }

        boolean hasAll(int many, int first, int second, int third) {
            return (many < 1 || has(first)) && (many < 2 || has(second)) && (many < 3 || has(third));
        }

        boolean isSink(int s) {
            return has(s) && (kind[s] == KIND_WIRE || kind[s] == KIND_REGISTER);
        }

        int addPlain(int itsKind, int itsWidth, int itsReset) {
            int s = size;
            kind[s] = itsKind;
            width[s] = itsWidth;
            resetWord[s] = itsReset & maskOf(itsWidth);
            size++;
            return s;
        }

        void describeNode(int s, int itsOp, int itsA, int itsB, int itsC) {
            op[s] = itsOp;
            a[s] = itsA;
            b[s] = itsB;
            c[s] = itsC;
        }

        int wider(int s, int t) {
            return Math.max(width[s], width[t]);
        }

        /** The WIDTH that a NODE would have, also above 8; 0 where its ARGUMENTS do not fit. */
        int widthOfNode(int itsOp, int x, int y, int z) {
            switch (itsOp) {
                case OP_NOT:
                    return width[x];
                case OP_AND:
                case OP_OR:
                case OP_XOR:
                case OP_SUB:
                    return wider(x, y);
                case OP_ADD:
                    return wider(x, y) + 1;
                case OP_EQUAL:
                case OP_LESS:
                    return 1;
                case OP_JOIN:
                    return width[x] + width[y];
                case OP_PART:
                    return isPartOf(x, y, z) ? z : 0;
                case OP_CHOOSE:
                    return width[x] == 1 ? wider(y, z) : 0;
                case OP_CONSTANT:
                    return isConstant(x, y) ? y : 0;
                default:
                    return 0;
            }
        }

        /** Each number is bounded before they are added, so that the sum cannot wrap around. */
        private boolean isPartOf(int s, int from, int many) {
            return from >= 0 && from < MOST_WIDTH && many >= 1 && many <= MOST_WIDTH
                    && from + many <= width[s];
        }

        private boolean isConstant(int word, int itsWidth) {
            return itsWidth >= 1 && itsWidth <= MOST_WIDTH && word >= 0 && word <= maskOf(itsWidth);
        }

        /** The SIGNALS that are ARGUMENTS of a NODE, as a set of bits. */
        int argumentsOf(int s) {
            int many = SIGNALS_OF_OP[op[s]];
            int set = 0;
            if (many >= 1) {
                set |= 1 << a[s];
            }
            if (many >= 2) {
                set |= 1 << b[s];
            }
            if (many >= 3) {
                set |= 1 << c[s];
            }
            return set;
        }
    }

    /** The row of STATEMENTS; it takes only what keeps WHEN, ELSE and END in their places. */
    private static final class Statements {
        final int[] sort = new int[MOST_STATEMENTS];
        /** The sink of a SET, the condition of a WHEN. */
        final int[] subject = new int[MOST_STATEMENTS];
        final int[] source = new int[MOST_STATEMENTS];
        int size;
        int openWhens;
        private final boolean[] elseSeen = new boolean[MOST_WHENS_AROUND];

        int addSet(int sink, int from) {
            return add(SORT_SET, sink, from);
        }

        int addWhen(int condition) {
            if (openWhens == MOST_WHENS_AROUND) {
                return FULL;
            }
            int answer = add(SORT_WHEN, condition, 0);
            if (answer >= 0) {
                elseSeen[openWhens] = false;
                openWhens++;
            }
            return answer;
        }

        int addElse() {
            if (openWhens == 0 || elseSeen[openWhens - 1]) {
                return NONE;
            }
            int answer = add(SORT_ELSE, 0, 0);
            if (answer >= 0) {
                elseSeen[openWhens - 1] = true;
            }
            return answer;
        }

        int addEnd() {
            if (openWhens == 0) {
                return NONE;
            }
            int answer = add(SORT_END, 0, 0);
            if (answer >= 0) {
                openWhens--;
            }
            return answer;
        }

        void removeAll() {
            size = 0;
            openWhens = 0;
        }

        private int add(int itsSort, int itsSubject, int itsSource) {
            if (size == MOST_STATEMENTS) {
                return FULL;
            }
            sort[size] = itsSort;
            subject[size] = itsSubject;
            source[size] = itsSource;
            size++;
            return size;
        }
    }

    /** The checks of a CIRCUIT whose WHENS all have their END. Sets of SIGNALS are bits of an int. */
    private static final class Checks {
        /** On which SIGNALS each one RESTS at once, without those on which these REST. */
        final int[] restsAtOnce = new int[MOST_SIGNALS];
        private final Signals signals;
        private final Statements statements;
        private final int[] restsOn = new int[MOST_SIGNALS];
        private final int[] around = new int[MOST_WHENS_AROUND + 1];
        private final int[] sureInPart = new int[MOST_WHENS_AROUND + 1];
        private final int[] sureInFirst = new int[MOST_WHENS_AROUND + 1];

        Checks(Signals signals, Statements statements) {
            this.signals = signals;
            this.statements = statements;
        }

        int leastUnsetWire() {
            int sure = sureSinks();
            for (int s = 0; s < signals.size; s++) {
                if (signals.kind[s] == KIND_WIRE && (sure >> s & 1) == 0) {
                    return s;
                }
            }
            return NONE;
        }

        /** Without ELSE nothing is SURE in the first PART's place, so nothing is SURE in both. */
        private int sureSinks() {
            int depth = 0;
            sureInPart[0] = 0;
            for (int k = 0; k < statements.size; k++) {
                int sort = statements.sort[k];
                if (sort == SORT_SET) {
                    sureInPart[depth] |= 1 << statements.subject[k];
                } else if (sort == SORT_WHEN) {
                    depth++;
                    sureInPart[depth] = 0;
                    sureInFirst[depth] = 0;
                } else if (sort == SORT_ELSE) {
                    sureInFirst[depth] = sureInPart[depth];
                    sureInPart[depth] = 0;
                } else {
                    depth--;
                    sureInPart[depth] |= sureInFirst[depth + 1] & sureInPart[depth + 1];
                }
            }
            return sureInPart[0];
        }

        int leastInLoop() {
            findRestsAtOnce();
            System.arraycopy(restsAtOnce, 0, restsOn, 0, signals.size);
            for (int through = 0; through < signals.size; through++) {
                for (int s = 0; s < signals.size; s++) {
                    if ((restsOn[s] >> through & 1) == 1) {
                        restsOn[s] |= restsOn[through];
                    }
                }
            }
            for (int s = 0; s < signals.size; s++) {
                if ((restsOn[s] >> s & 1) == 1) {
                    return s;
                }
            }
            return NONE;
        }

        private void findRestsAtOnce() {
            for (int s = 0; s < signals.size; s++) {
                restsAtOnce[s] = signals.kind[s] == KIND_NODE ? signals.argumentsOf(s) : 0;
            }
            int depth = 0;
            around[0] = 0;
            for (int k = 0; k < statements.size; k++) {
                int subject = statements.subject[k];
                int sort = statements.sort[k];
                if (sort == SORT_WHEN) {
                    depth++;
                    around[depth] = around[depth - 1] | 1 << subject;
                } else if (sort == SORT_END) {
                    depth--;
                } else if (sort == SORT_SET && signals.kind[subject] == KIND_WIRE) {
                    restsAtOnce[subject] |= around[depth] | 1 << statements.source[k];
                }
            }
        }
    }

    /**
     * The GATES and the values on them. What can be joined is numbered: 0 is FALSE, then come
     * the places for BITS of INPUTS and REGISTERS, then the GATES, each behind what it joins.
     * A LITERAL is twice such a number, 1 more for the opposite.
     */
    private static final class Net {
        private static final int FIRST_GATE = 1 + MOST_SIGNALS * MOST_WIDTH;
        /**
         * No CIRCUIT needs more than 1264: a NODE makes at most 7 GATES a BIT, so 56; a sink at
         * most 3 a BIT for each WHEN with a SET of it, so 96 in four; 20 STATEMENTS hold at most
         * 12 such sinks, two SIGNALS are left for NODES, and other ways to share them give less.
         */
        private static final int MOST_GATES = 1280;
        private static final int NUMBERS = FIRST_GATE + MOST_GATES;
        private static final int LITERAL_BITS = 12;
        private static final int LITERAL_MASK = (1 << LITERAL_BITS) - 1;
        private static final int SLOTS = 2048;
        private static final int SPREAD = 0x9E3779B1;
        private static final int SPREAD_SHIFT = 21;

        int gates;
        int greatestDepth;
        /** The two LITERALS that a GATE joins, the lesser one in front. */
        private final int[] pairs = new int[NUMBERS];
        private final int[] depths = new int[NUMBERS];
        private final int[] values = new int[NUMBERS];
        /** The GATES, found by their pairs; 0 where a slot is free. */
        private final int[] slots = new int[SLOTS];
        private boolean settled;

        void removeGates() {
            Arrays.fill(slots, 0);
            gates = 0;
            greatestDepth = 0;
            settled = false;
        }

        static int bitOf(int s, int bit) {
            return 2 * (1 + s * MOST_WIDTH + bit);
        }

        static int opposite(int x) {
            return x ^ 1;
        }

        int join(int x, int y) {
            if (x == FALSE || y == FALSE || x == opposite(y)) {
                return FALSE;
            }
            if (x == TRUE) {
                return y;
            }
            if (y == TRUE || x == y) {
                return x;
            }
            int pair = x < y ? x << LITERAL_BITS | y : y << LITERAL_BITS | x;
            int slot = slotOf(pair);
            if (slots[slot] == 0) {
                addGate(pair, slot);
            }
            return 2 * slots[slot];
        }

        int either(int x, int y) {
            return opposite(join(opposite(x), opposite(y)));
        }

        /** EITHER is written out here, so that calls stay within the depth that they may have. */
        int pick(int condition, int x, int y) {
            if (x == y) {
                return x;
            }
            int one = join(condition, x);
            int other = join(opposite(condition), y);
            return opposite(join(opposite(one), opposite(other)));
        }

        int diff(int x, int y) {
            return join(opposite(join(x, y)), opposite(join(opposite(x), opposite(y))));
        }

        /** The slot with the GATE of a pair, or the free one where it belongs. */
        private int slotOf(int pair) {
            int slot = pair * SPREAD >>> SPREAD_SHIFT;
            for (int tries = 0; tries < SLOTS; tries++) {
                int gate = slots[slot];
                if (gate == 0 || pairs[gate] == pair) {
                    break;
                }
                slot = slot + 1 & SLOTS - 1;
            }
            return slot;
        }

        private void addGate(int pair, int slot) {
            if (gates == MOST_GATES) {
                return;
            }
            int gate = FIRST_GATE + gates;
            int before = depths[(pair >> LITERAL_BITS) >> 1];
            int behind = depths[(pair & LITERAL_MASK) >> 1];
            gates++;
            slots[slot] = gate;
            pairs[gate] = pair;
            depths[gate] = 1 + (before > behind ? before : behind);
            if (depths[gate] > greatestDepth) {
                greatestDepth = depths[gate];
            }
        }

        int depthOf(int literal) {
            return depths[literal >> 1];
        }

        /** Gives the BITS of an INPUT or REGISTER their values. */
        void putWord(int s, int word) {
            int place = 1 + s * MOST_WIDTH;
            for (int bit = 0; bit < MOST_WIDTH; bit++) {
                values[place + bit] = word >> bit & 1;
            }
            settled = false;
        }

        /** Gives all GATES the values that follow from the BITS, if those were put anew. */
        void settle() {
            if (settled) {
                return;
            }
            int end = FIRST_GATE + gates;
            for (int gate = FIRST_GATE; gate < end; gate++) {
                int pair = pairs[gate];
                values[gate] = valueOf(pair >> LITERAL_BITS) & valueOf(pair & LITERAL_MASK);
            }
            settled = true;
        }

        private int valueOf(int literal) {
            return values[literal >> 1] ^ literal & 1;
        }

        /** The word of a SIGNAL whose LITERALS stand in a row of all SIGNALS; of a settled NET. */
        int wordOf(int[] literals, int s, int width) {
            int word = 0;
            for (int bit = 0; bit < width; bit++) {
                word |= valueOf(literals[s * MOST_WIDTH + bit]) << bit;
            }
            return word;
        }

        int gatesAtOne() {
            settle();
            int ones = 0;
            for (int i = 0; i < gates; i++) {
                ones += values[FIRST_GATE + i];
            }
            return ones;
        }
    }

    /** Makes the NET of a CIRCUIT that has passed the checks. */
    private static final class NetMaker {
        /** The LITERALS of all BITS of all SIGNALS, and of the NEXT BITS of REGISTERS. */
        final int[] bits = new int[MOST_SIGNALS * MOST_WIDTH];
        final int[] nextBits = new int[MOST_SIGNALS * MOST_WIDTH];
        private final Signals signals;
        private final Statements statements;
        private final Checks checks;
        private final Net net;
        private final int[] sums = new int[MOST_WIDTH];
        private final int[] given = new int[MOST_WHENS_AROUND + 1];
        private final int[] givenByFirst = new int[MOST_WHENS_AROUND + 1];
        private final int[] condition = new int[MOST_WHENS_AROUND + 1];
        private final boolean[] inSecond = new boolean[MOST_WHENS_AROUND + 1];

        NetMaker(Signals signals, Statements statements, Checks checks, Net net) {
            this.signals = signals;
            this.statements = statements;
            this.checks = checks;
            this.net = net;
        }

        /** In each round at least one SIGNAL is made, since none RESTS ON itself. */
        void makeNet() {
            net.removeGates();
            int made = 0;
            for (int round = 0; round < signals.size; round++) {
                for (int s = 0; s < signals.size; s++) {
                    if ((made >> s & 1) == 1 || (checks.restsAtOnce[s] & ~made) != 0) {
                        continue;
                    }
                    if (signals.kind[s] == KIND_WIRE) {
                        makeSink(s, bits);
                    } else if (signals.kind[s] == KIND_NODE) {
                        makeNode(s);
                    } else {
                        makeBits(s);
                    }
                    made |= 1 << s;
                }
            }
            for (int s = 0; s < signals.size; s++) {
                if (signals.kind[s] == KIND_REGISTER) {
                    makeSink(s, nextBits);
                }
            }
        }

        int fixedBitsOf(int s) {
            int many = 0;
            for (int bit = 0; bit < signals.width[s]; bit++) {
                int literal = literalOf(s, bit);
                if (literal == FALSE || literal == TRUE) {
                    many++;
                }
            }
            return many;
        }

        int depthOf(int s) {
            int depth = 0;
            for (int bit = 0; bit < signals.width[s]; bit++) {
                depth = Math.max(depth, net.depthOf(literalOf(s, bit)));
            }
            return depth;
        }

        /** Also of a BIT in front of those that the SIGNAL has. */
        private int literalOf(int s, int bit) {
            return bit < signals.width[s] ? bits[s * MOST_WIDTH + bit] : FALSE;
        }

        private void makeBits(int s) {
            for (int bit = 0; bit < signals.width[s]; bit++) {
                bits[s * MOST_WIDTH + bit] = Net.bitOf(s, bit);
            }
        }

        private void makeSink(int s, int[] into) {
            for (int bit = 0; bit < signals.width[s]; bit++) {
                into[s * MOST_WIDTH + bit] = goThroughStatements(s, bit);
            }
        }

        /**
         * The condition of a WHEN without a SET of s may not be made yet; PICK does not look at
         * it then, since both PARTS gave the same.
         */
        private int goThroughStatements(int s, int bit) {
            int depth = 0;
            given[0] = signals.kind[s] == KIND_REGISTER ? literalOf(s, bit) : FALSE;
            for (int k = 0; k < statements.size; k++) {
                int sort = statements.sort[k];
                if (sort == SORT_SET) {
                    if (statements.subject[k] == s) {
                        given[depth] = literalOf(statements.source[k], bit);
                    }
                } else if (sort == SORT_WHEN) {
                    depth++;
                    condition[depth] = statements.subject[k];
                    inSecond[depth] = false;
                    given[depth] = given[depth - 1];
                } else if (sort == SORT_ELSE) {
                    goToSecond(depth);
                } else {
                    if (!inSecond[depth]) {
                        goToSecond(depth);
                    }
                    depth--;
                    given[depth] = net.pick(literalOf(condition[depth + 1], 0),
                            givenByFirst[depth + 1], given[depth + 1]);
                }
            }
            return given[0];
        }

        private void goToSecond(int depth) {
            givenByFirst[depth] = given[depth];
            given[depth] = given[depth - 1];
            inSecond[depth] = true;
        }

        private void makeNode(int s) {
            int place = s * MOST_WIDTH;
            int a = signals.a[s];
            int b = signals.b[s];
            switch (signals.op[s]) {
                case OP_ADD:
                    int carry = addUp(a, b, FALSE);
                    System.arraycopy(sums, 0, bits, place, signals.width[s] - 1);
                    bits[place + signals.width[s] - 1] = carry;
                    break;
                case OP_SUB:
                    addUp(a, b, TRUE);
                    System.arraycopy(sums, 0, bits, place, signals.width[s]);
                    break;
                case OP_LESS:
                    bits[place] = Net.opposite(addUp(a, b, TRUE));
                    break;
                case OP_EQUAL:
                    bits[place] = equalOf(a, b);
                    break;
                default:
                    for (int bit = 0; bit < signals.width[s]; bit++) {
                        bits[place + bit] = bitOfNode(s, bit);
                    }
            }
        }

        /** A BIT of a NODE whose BITS are made apart from one another. */
        private int bitOfNode(int s, int bit) {
            int a = signals.a[s];
            int b = signals.b[s];
            int c = signals.c[s];
            switch (signals.op[s]) {
                case OP_NOT:
                    return Net.opposite(literalOf(a, bit));
                case OP_AND:
                    return net.join(literalOf(a, bit), literalOf(b, bit));
                case OP_OR:
                    return net.either(literalOf(a, bit), literalOf(b, bit));
                case OP_XOR:
                    return net.diff(literalOf(a, bit), literalOf(b, bit));
                case OP_JOIN:
                    int low = signals.width[b];
                    return bit < low ? literalOf(b, bit) : literalOf(a, bit - low);
                case OP_PART:
                    return literalOf(a, b + bit);
                case OP_CHOOSE:
                    return net.pick(literalOf(a, 0), literalOf(b, bit), literalOf(c, bit));
                case OP_CONSTANT:
                    return (a >> bit & 1) == 1 ? TRUE : FALSE;
                default:
                    return FALSE;
            }
        }

        /** Makes the sums of a and b, or with start TRUE of a and the opposites of b: the last c. */
        private int addUp(int a, int b, int start) {
            int width = signals.wider(a, b);
            int carry = start;
            for (int bit = 0; bit < width; bit++) {
                int x = literalOf(a, bit);
                int y = start == TRUE ? Net.opposite(literalOf(b, bit)) : literalOf(b, bit);
                int half = net.diff(x, y);
                sums[bit] = net.diff(half, carry);
                carry = net.either(net.join(x, y), net.join(half, carry));
            }
            return carry;
        }

        private int equalOf(int a, int b) {
            int width = signals.wider(a, b);
            int equal = TRUE;
            for (int bit = 0; bit < width; bit++) {
                equal = net.join(equal, Net.opposite(net.diff(literalOf(a, bit), literalOf(b, bit))));
            }
            return equal;
        }
    }
}
