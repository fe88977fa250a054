/** One group of calls, or several, for each promise of the document, worked out by hand. */
public final class PromiseTests {
    private static final int INPUT = 0;
    private static final int WIRE = 1;
    private static final int REGISTER = 2;
    private static final int NODE = 3;

    private static final int NOT = 0;
    private static final int AND = 1;
    private static final int OR = 2;
    private static final int XOR = 3;
    private static final int ADD = 4;
    private static final int SUB = 5;
    private static final int EQUAL = 6;
    private static final int LESS = 7;
    private static final int JOIN = 8;
    private static final int PART = 9;
    private static final int CHOOSE = 10;
    private static final int CONSTANT = 11;

    private static final int SET = 0;
    private static final int WHEN = 1;
    private static final int ELSE = 2;
    private static final int END = 3;

    private static final int REFUSED = -1;
    private static final int NONE = -2;
    private static final int FULL = -3;
    private static final int OPEN = -4;
    private static final int UNSET = -5;
    private static final int LOOP = -6;

    private static int asked = 0;
    private static int wrong = 0;

    private static void due(String what, int got, int want) {
        asked++;
        if (got != want) {
            wrong++;
            System.out.println(what + " answered " + got + ", due is " + want);
        }
    }

    private static void due(String what, boolean got, boolean want) {
        due(what, got ? 1 : 0, want ? 1 : 0);
    }

    public static void main(String[] args) {
        newObject();
        signal();
        signalRefusals();
        node();
        nodeRefusals();
        nodeArgumentsNotLookedAt();
        state();
        stateRefusals();
        stateFull();
        clear();
        compileFaultsInOrder();
        compileSure();
        compileLoop();
        compileStartsAnew();
        netWithoutDoubles();
        netOfSums();
        netOfStatements();
        where();
        input();
        clock();
        reset();
        value();
        valuesOfOps();
        valuesOfStatements();
        tell();
        count();
        orderAndLimits();
        refusedCallsChangeNothing();
        System.out.println(asked + " answers asked for, " + wrong + " not as due");
        if (wrong != 0) {
            System.exit(1);
        }
    }

    private static CircuitDesk desk() {
        return new CircuitDesk();
    }

    /** INPUTS of the widths, numbered from 0 on. */
    private static CircuitDesk deskWithInputs(int... widths) {
        CircuitDesk x = desk();
        for (int i = 0; i < widths.length; i++) {
            due("input made", x.signal(INPUT, widths[i], 0), i);
        }
        return x;
    }

    private static void newObject() {
        CircuitDesk x = desk();
        due("1 signals", x.count(0), 0);
        due("1 statements", x.count(1), 0);
        due("1 draft", x.count(2), 0);
        due("1 whens", x.count(7), 0);
        due("1 where", x.where(), NONE);
        due("1 gates", x.count(3), NONE);
        due("1 depth", x.count(4), NONE);
        due("1 ones", x.count(5), NONE);
        due("1 clocks", x.count(6), NONE);
        due("1 value", x.value(0, false), NONE);
        due("1 tell", x.tell(0, 0), NONE);
        due("1 reset", x.reset(), false);
        due("1 clock", x.clock(1), NONE);
        due("1 input", x.input(0, 0), NONE);
    }

    private static void signal() {
        CircuitDesk x = desk();
        for (int i = 0; i < 14; i++) {
            due("2 number", x.signal(i % 3, i % 8 + 1, 255), i);
            due("2 kind", x.tell(i, 0), i % 3);
            due("2 width", x.tell(i, 1), i % 8 + 1);
        }
        due("2 full", x.signal(INPUT, 1, 0), FULL);
        due("2 refused before full", x.signal(INPUT, 9, 0), REFUSED);
        due("2 still 14", x.count(0), 14);
        CircuitDesk y = desk();
        y.signal(REGISTER, 3, 0xFA);
        y.signal(REGISTER, 8, 255);
        y.compile();
        due("2 lowest bits of reset", y.value(0, false), 2);
        due("2 whole reset", y.value(1, false), 255);
    }

    private static void signalRefusals() {
        CircuitDesk x = desk();
        due("2 kind -1", x.signal(-1, 1, 0), REFUSED);
        due("2 kind 3", x.signal(NODE, 1, 0), REFUSED);
        due("2 width 0", x.signal(INPUT, 0, 0), REFUSED);
        due("2 width 9", x.signal(WIRE, 9, 0), REFUSED);
        due("2 width least", x.signal(WIRE, Integer.MIN_VALUE, 0), REFUSED);
        due("2 reset -1", x.signal(REGISTER, 1, -1), REFUSED);
        due("2 reset 256", x.signal(REGISTER, 8, 256), REFUSED);
        due("2 reset of input", x.signal(INPUT, 8, -1), 0);
        due("2 reset of wire", x.signal(WIRE, 8, 256), 1);
        due("2 reset wider than width", x.signal(REGISTER, 1, 255), 2);
    }

    private static void node() {
        CircuitDesk x = deskWithInputs(3, 5, 1);
        int[][] ops = {
            {NOT, 0, -9, -9, 3}, {AND, 0, 1, -9, 5}, {OR, 1, 0, -9, 5}, {XOR, 0, 1, -9, 5},
            {ADD, 0, 1, -9, 6}, {SUB, 0, 1, -9, 5}, {EQUAL, 0, 1, -9, 1}, {LESS, 0, 1, -9, 1},
            {JOIN, 0, 1, -9, 8}, {PART, 1, 1, 4, 4}, {CHOOSE, 2, 0, 1, 5}
        };
        int number = 3;
        for (int[] o : ops) {
            due("3 number of op " + o[0], x.node(o[0], o[1], o[2], o[3]), number);
            due("3 kind of op " + o[0], x.tell(number, 0), NODE);
            due("3 width of op " + o[0], x.tell(number, 1), o[4]);
            due("3 op of op " + o[0], x.tell(number, 2), o[0]);
            number++;
        }
        due("3 full", x.node(NOT, 0, 0, 0), FULL);
        due("3 refused before full", x.node(NOT, 14, 0, 0), REFUSED);
        CircuitDesk y = desk();
        due("3 constant", y.node(CONSTANT, 5, 3, 0), 0);
        due("3 width of constant", y.tell(0, 1), 3);
    }

    private static void nodeRefusals() {
        CircuitDesk x = deskWithInputs(8, 1, 4);
        due("3 op -1", x.node(-1, 0, 0, 0), REFUSED);
        due("3 op 12", x.node(12, 0, 0, 0), REFUSED);
        for (int op = NOT; op <= CHOOSE; op++) {
            due("3 no a, op " + op, x.node(op, 3, 1, 1), REFUSED);
            due("3 a below 0, op " + op, x.node(op, -1, 1, 1), REFUSED);
        }
        for (int op = AND; op <= JOIN; op++) {
            due("3 no b, op " + op, x.node(op, 1, 3, 1), REFUSED);
            due("3 b below 0, op " + op, x.node(op, 1, -1, 1), REFUSED);
        }
        due("3 choose no b", x.node(CHOOSE, 1, 3, 1), REFUSED);
        due("3 choose no c", x.node(CHOOSE, 1, 1, 3), REFUSED);
        due("3 choose a wide", x.node(CHOOSE, 2, 1, 1), REFUSED);
        due("3 add too wide", x.node(ADD, 1, 0, 0), REFUSED);
        due("3 join too wide", x.node(JOIN, 0, 1, 0), REFUSED);
        due("3 part b -1", x.node(PART, 0, -1, 2), REFUSED);
        due("3 part c 0", x.node(PART, 0, 0, 0), REFUSED);
        due("3 part beyond", x.node(PART, 2, 1, 4), REFUSED);
        due("3 part at end", x.node(PART, 2, 4, 1), REFUSED);
        due("3 part b greatest", x.node(PART, 0, Integer.MAX_VALUE, 1), REFUSED);
        due("3 part c greatest", x.node(PART, 0, 1, Integer.MAX_VALUE), REFUSED);
        due("3 constant width 0", x.node(CONSTANT, 0, 0, 0), REFUSED);
        due("3 constant width 9", x.node(CONSTANT, 0, 9, 0), REFUSED);
        due("3 constant width 33", x.node(CONSTANT, 0, 33, 0), REFUSED);
        due("3 constant below 0", x.node(CONSTANT, -1, 8, 0), REFUSED);
        due("3 constant too great", x.node(CONSTANT, 8, 3, 0), REFUSED);
        due("3 none was made", x.count(0), 3);
        due("3 itself is not there yet", x.node(NOT, 3, 0, 0), REFUSED);
        due("3 part whole", x.node(PART, 0, 0, 8), 3);
        due("3 join just fits", x.node(JOIN, 2, 2, 0), 4);
        due("3 constant just fits", x.node(CONSTANT, 255, 8, 0), 5);
    }

    private static void nodeArgumentsNotLookedAt() {
        CircuitDesk x = deskWithInputs(1);
        due("3 not", x.node(NOT, 0, 99, -99), 1);
        due("3 and", x.node(AND, 0, 0, -99), 2);
        due("3 less", x.node(LESS, 0, 0, 99), 3);
        due("3 constant", x.node(CONSTANT, 1, 1, -99), 4);
    }

    private static void state() {
        CircuitDesk x = deskWithInputs(1, 4);
        x.signal(WIRE, 4, 0);
        x.signal(REGISTER, 4, 0);
        due("4 set wire", x.state(SET, 2, 1), 1);
        due("4 set register", x.state(SET, 3, 2), 2);
        due("4 when", x.state(WHEN, 0, -9), 3);
        due("4 depth", x.count(7), 1);
        due("4 set within", x.state(SET, 3, 3), 4);
        due("4 when within", x.state(WHEN, 0, 99), 5);
        due("4 depth", x.count(7), 2);
        due("4 else of inner", x.state(ELSE, -9, -9), 6);
        due("4 no second else", x.state(ELSE, 0, 0), NONE);
        due("4 end of inner", x.state(END, 99, 99), 7);
        due("4 else of outer", x.state(ELSE, 0, 0), 8);
        due("4 no second else", x.state(ELSE, 0, 0), NONE);
        due("4 when in second part", x.state(WHEN, 0, 0), 9);
        due("4 else of new one", x.state(ELSE, 0, 0), 10);
        due("4 end", x.state(END, 0, 0), 11);
        due("4 still no second else", x.state(ELSE, 0, 0), NONE);
        due("4 end", x.state(END, 0, 0), 12);
        due("4 depth", x.count(7), 0);
        due("4 end without when", x.state(END, 0, 0), NONE);
        due("4 else without when", x.state(ELSE, 0, 0), NONE);
        due("4 how many", x.count(1), 12);
    }

    private static void stateRefusals() {
        CircuitDesk x = deskWithInputs(1, 4);
        x.signal(WIRE, 4, 0);
        x.node(NOT, 0, 0, 0);
        due("4 sort -1", x.state(-1, 2, 0), REFUSED);
        due("4 sort 4", x.state(4, 2, 0), REFUSED);
        due("4 set input", x.state(SET, 0, 1), REFUSED);
        due("4 set node", x.state(SET, 3, 1), REFUSED);
        due("4 set no signal", x.state(SET, 4, 1), REFUSED);
        due("4 set signal -1", x.state(SET, -1, 1), REFUSED);
        due("4 set from none", x.state(SET, 2, 4), REFUSED);
        due("4 set from -1", x.state(SET, 2, -1), REFUSED);
        due("4 when wide", x.state(WHEN, 1, 0), REFUSED);
        due("4 when none", x.state(WHEN, 4, 0), REFUSED);
        due("4 when -1", x.state(WHEN, -1, 0), REFUSED);
        due("4 nothing there", x.count(1), 0);
        due("4 when node", x.state(WHEN, 3, 0), 1);
    }

    private static void stateFull() {
        CircuitDesk x = deskWithInputs(1);
        x.signal(WIRE, 1, 0);
        for (int i = 1; i <= 4; i++) {
            due("4 when", x.state(WHEN, 0, 0), i);
        }
        due("4 fifth when", x.state(WHEN, 0, 0), FULL);
        due("4 fifth when refused", x.state(WHEN, 2, 0), REFUSED);
        due("4 set in four", x.state(SET, 1, 0), 5);
        due("4 else in four", x.state(ELSE, 0, 0), 6);
        due("4 fifth when", x.state(WHEN, 0, 0), FULL);
        due("4 end of fourth", x.state(END, 0, 0), 7);
        due("4 fourth again", x.state(WHEN, 0, 0), 8);
        for (int i = 9; i <= 20; i++) {
            due("4 set", x.state(SET, 1, 0), i);
        }
        due("4 set when full", x.state(SET, 1, 0), FULL);
        due("4 else when full", x.state(ELSE, 0, 0), FULL);
        due("4 end when full", x.state(END, 0, 0), FULL);
        due("4 when when full", x.state(WHEN, 0, 0), FULL);
        due("4 refused before full", x.state(SET, 0, 0), REFUSED);
        due("4 depth kept", x.count(7), 4);
        due("4 clear", x.clear(0), 20);
        due("4 none before full", x.state(ELSE, 0, 0), NONE);
        for (int i = 1; i <= 20; i++) {
            due("4 set", x.state(SET, 1, 0), i);
        }
        due("4 none before full", x.state(END, 0, 0), NONE);
        due("4 none before full", x.state(ELSE, 0, 0), NONE);
        due("4 when when full", x.state(WHEN, 0, 0), FULL);
    }

    private static void clear() {
        CircuitDesk x = deskWithInputs(1);
        x.signal(REGISTER, 2, 3);
        x.state(WHEN, 0, 0);
        x.state(SET, 1, 0);
        due("5 what -1", x.clear(-1), REFUSED);
        due("5 what 2", x.clear(2), REFUSED);
        due("5 kept", x.count(1), 2);
        due("5 statements", x.clear(0), 2);
        due("5 none now", x.count(1), 0);
        due("5 no when", x.count(7), 0);
        due("5 signals kept", x.count(0), 2);
        due("5 no end", x.state(END, 0, 0), NONE);
        due("5 again", x.clear(0), 0);
        x.state(SET, 1, 0);
        due("5 all", x.clear(1), 1);
        due("5 no signals", x.count(0), 0);
        due("5 no statements", x.count(1), 0);
        due("5 numbers from 0", x.signal(WIRE, 1, 0), 0);
        due("5 no else left", x.state(WHEN, 0, 0), 1);
        due("5 else is new", x.state(ELSE, 0, 0), 2);
    }

    private static void compileFaultsInOrder() {
        CircuitDesk x = deskWithInputs(1);
        x.signal(WIRE, 1, 0);
        x.signal(WIRE, 1, 0);
        x.state(SET, 2, 2);
        x.state(WHEN, 0, 0);
        due("6 open first", x.compile(), OPEN);
        due("7 open has no signal", x.where(), NONE);
        x.state(END, 0, 0);
        due("6 unset before loop", x.compile(), UNSET);
        due("7 unset", x.where(), 1);
        x.state(SET, 1, 0);
        due("6 loop", x.compile(), LOOP);
        due("7 loop", x.where(), 2);
        due("6 a draft", x.count(2), 0);
        x.state(WHEN, 0, 0);
        due("6 open again", x.compile(), OPEN);
        due("7 no signal any more", x.where(), NONE);
        CircuitDesk y = desk();
        due("6 nothing at all", y.compile(), 0);
        due("6 ready", y.count(2), 1);
        due("6 no depth", y.count(4), 0);
        due("6 no ones", y.count(5), 0);
    }

    private static void compileSure() {
        CircuitDesk x = deskWithInputs(1, 1);
        x.signal(WIRE, 1, 0);
        x.state(WHEN, 0, 0);
        x.state(SET, 2, 1);
        x.state(END, 0, 0);
        due("6 when without else", x.compile(), UNSET);
        x.state(WHEN, 0, 0);
        x.state(ELSE, 0, 0);
        x.state(SET, 2, 1);
        x.state(END, 0, 0);
        due("6 one part each", x.compile(), UNSET);
        x.clear(0);
        x.state(WHEN, 0, 0);
        x.state(WHEN, 1, 0);
        x.state(SET, 2, 1);
        x.state(ELSE, 0, 0);
        x.state(SET, 2, 0);
        x.state(END, 0, 0);
        x.state(ELSE, 0, 0);
        x.state(WHEN, 1, 0);
        x.state(SET, 2, 0);
        x.state(END, 0, 0);
        due("6 open", x.compile(), OPEN);
        x.state(END, 0, 0);
        due("6 inner not sure", x.compile(), UNSET);
        due("7 it", x.where(), 2);
        x.state(SET, 2, 0);
        due("6 sure behind", x.compile() >= 0, true);
        x.clear(0);
        x.state(WHEN, 0, 0);
        x.state(SET, 2, 1);
        x.state(ELSE, 0, 0);
        x.state(WHEN, 1, 0);
        x.state(SET, 2, 1);
        x.state(ELSE, 0, 0);
        x.state(SET, 2, 0);
        x.state(END, 0, 0);
        x.state(END, 0, 0);
        due("6 sure in all parts", x.compile() >= 0, true);
        due("7 none", x.where(), NONE);
        CircuitDesk y = deskWithInputs(1);
        y.signal(REGISTER, 1, 0);
        due("6 registers need no set", y.compile(), 0);
        y.state(WHEN, 0, 0);
        y.state(SET, 1, 0);
        y.state(END, 0, 0);
        due("6 nor one on every way", y.compile() >= 0, true);
    }

    private static void compileLoop() {
        CircuitDesk x = deskWithInputs(1);
        x.signal(WIRE, 1, 0);
        x.signal(WIRE, 1, 0);
        x.node(NOT, 2, 0, 0);
        x.state(SET, 2, 1);
        x.state(SET, 1, 0);
        x.state(WHEN, 3, 0);
        x.state(END, 0, 0);
        due("6 empty when on it", x.compile(), 0);
        x.state(WHEN, 3, 0);
        x.state(SET, 1, 0);
        x.state(END, 0, 0);
        due("6 condition rests on it", x.compile(), LOOP);
        due("7 the least of the loop", x.where(), 1);
        x.clear(0);
        x.state(SET, 1, 3);
        x.state(SET, 1, 0);
        x.state(SET, 2, 1);
        due("6 also a set that never counts", x.compile(), LOOP);
        x.clear(0);
        x.state(WHEN, 1, 0);
        x.state(WHEN, 0, 0);
        x.state(SET, 2, 0);
        x.state(SET, 1, 0);
        x.state(END, 0, 0);
        x.state(END, 0, 0);
        x.state(SET, 1, 0);
        x.state(SET, 2, 0);
        due("6 outer condition", x.compile(), LOOP);
        due("7 outer condition", x.where(), 1);
        CircuitDesk y = desk();
        y.signal(WIRE, 1, 0);
        y.signal(WIRE, 1, 0);
        y.state(SET, 0, 1);
        y.state(SET, 1, 1);
        due("6 loop behind", y.compile(), LOOP);
        due("7 not the one that rests on a loop", y.where(), 1);
        CircuitDesk z = desk();
        z.signal(REGISTER, 1, 1);
        z.node(NOT, 0, 0, 0);
        z.signal(WIRE, 1, 0);
        z.state(SET, 0, 1);
        z.state(SET, 2, 0);
        z.state(WHEN, 0, 0);
        z.state(SET, 0, 2);
        z.state(END, 0, 0);
        due("6 no loop through a register", z.compile() >= 0, true);
        loopThroughNumbers();
    }

    /** b and c of PART and both of CONSTANT are numbers: they are no SIGNALS to rest on. */
    private static void loopThroughNumbers() {
        CircuitDesk x = deskWithInputs(8);
        x.signal(WIRE, 1, 0);
        x.node(PART, 0, 1, 1);
        x.node(CONSTANT, 1, 1, 1);
        x.node(NOT, 0, 1, 1);
        x.node(XOR, 2, 3, 1);
        x.state(SET, 1, 5);
        x.state(SET, 1, 4);
        due("6 numbers are no signals", x.compile(), 0);
    }

    private static void compileStartsAnew() {
        CircuitDesk x = deskWithInputs(2);
        x.signal(REGISTER, 2, 2);
        x.state(SET, 1, 0);
        due("6 no gates", x.compile(), 0);
        x.input(0, 3);
        x.clock(4);
        due("6 before", x.value(1, false), 3);
        due("6 again", x.compile(), 0);
        due("6 register reset", x.value(1, false), 2);
        due("6 input 0", x.value(0, false), 0);
        due("6 clocks 0", x.count(6), 0);
    }

    private static int gatesOf(int op, int a, int b, int c) {
        CircuitDesk x = deskWithInputs(1, 1, 1);
        x.node(NOT, 0, 0, 0);
        x.node(CONSTANT, 0, 1, 0);
        x.node(CONSTANT, 1, 1, 0);
        x.node(op, a, b, c);
        return x.compile();
    }

    private static void netWithoutDoubles() {
        due("net and", gatesOf(AND, 0, 1, 0), 1);
        due("net or", gatesOf(OR, 0, 1, 0), 1);
        due("net xor", gatesOf(XOR, 0, 1, 0), 3);
        due("net equal", gatesOf(EQUAL, 0, 1, 0), 3);
        due("net choose", gatesOf(CHOOSE, 0, 1, 2), 3);
        due("net choose of the same", gatesOf(CHOOSE, 0, 1, 1), 0);
        due("net choose true, false", gatesOf(CHOOSE, 0, 5, 4), 0);
        due("net choose b, false", gatesOf(CHOOSE, 0, 1, 4), 1);
        due("net choose itself", gatesOf(CHOOSE, 0, 0, 1), 2);
        due("net and of the same", gatesOf(AND, 0, 0, 0), 0);
        due("net and of opposites", gatesOf(AND, 0, 3, 0), 0);
        due("net and false", gatesOf(AND, 4, 1, 0), 0);
        due("net and true", gatesOf(AND, 1, 5, 0), 0);
        due("net xor of the same", gatesOf(XOR, 1, 1, 0), 0);
        due("net xor of opposites", gatesOf(XOR, 0, 3, 0), 0);
        due("net xor true", gatesOf(XOR, 0, 5, 0), 0);
        CircuitDesk x = deskWithInputs(1, 1);
        x.node(AND, 0, 1, 0);
        x.node(AND, 1, 0, 0);
        due("net any order", x.compile(), 1);
        x.node(NOT, 0, 0, 0);
        x.node(NOT, 1, 0, 0);
        x.node(OR, 4, 5, 0);
        due("net or of opposites", x.compile(), 1);
        x.node(XOR, 0, 1, 0);
        due("net xor has the and", x.compile(), 3);
        x.node(EQUAL, 1, 0, 0);
        due("net equal has the xor", x.compile(), 3);
        x.node(OR, 0, 1, 0);
        due("net or is in the xor", x.compile(), 3);
        x.node(AND, 0, 5, 0);
        due("net and of an opposite", x.compile(), 4);
    }

    private static void netOfSums() {
        due("net add", gatesOf(ADD, 0, 1, 0), 3);
        due("net sub", gatesOf(SUB, 0, 1, 0), 4);
        due("net less", gatesOf(LESS, 0, 1, 0), 4);
        CircuitDesk x = deskWithInputs(1, 1);
        x.node(ADD, 0, 1, 0);
        x.node(XOR, 0, 1, 0);
        due("net add has the xor", x.compile(), 3);
        due("net depth of add", x.tell(2, 4), 2);
        x.node(SUB, 0, 1, 0);
        x.node(LESS, 0, 1, 0);
        due("net sub and less", x.compile(), 7);
        due("net depth of sub", x.tell(4, 4), 2);
        due("net depth of less", x.tell(5, 4), 3);
        CircuitDesk y = deskWithInputs(2, 2);
        y.node(ADD, 0, 1, 0);
        due("net add of two bits", y.compile(), 10);
        CircuitDesk z = deskWithInputs(2, 2);
        z.node(LESS, 0, 1, 0);
        due("net less of two bits makes its bits too", z.compile(), 11);
        CircuitDesk w = deskWithInputs(2, 1);
        w.node(EQUAL, 0, 1, 0);
        due("net equal with a bit in front", w.compile(), 4);
    }

    private static void netOfStatements() {
        CircuitDesk x = deskWithInputs(1, 1, 1);
        x.signal(WIRE, 1, 0);
        x.state(WHEN, 0, 0);
        x.state(SET, 3, 1);
        x.state(END, 0, 0);
        x.state(SET, 3, 2);
        due("net gates that do not count are made", x.compile(), 1);
        due("net of the wire", x.tell(3, 4), 0);
        x.clear(0);
        x.state(SET, 3, 2);
        x.state(WHEN, 0, 0);
        x.state(SET, 3, 1);
        x.state(END, 0, 0);
        due("net pick", x.compile(), 3);
        due("net depth of pick", x.tell(3, 4), 2);
        x.state(WHEN, 1, 0);
        x.state(END, 0, 0);
        due("net empty when", x.compile(), 3);
        x.node(CHOOSE, 0, 1, 2);
        due("net choose is the same pick", x.compile(), 3);
        x.clear(0);
        x.state(SET, 3, 2);
        x.state(WHEN, 0, 0);
        x.state(ELSE, 0, 0);
        x.state(SET, 3, 1);
        x.state(END, 0, 0);
        due("net other part", x.compile(), 6);
        CircuitDesk y = deskWithInputs(1);
        y.signal(REGISTER, 1, 0);
        y.node(NOT, 1, 0, 0);
        y.state(WHEN, 0, 0);
        y.state(SET, 1, 2);
        y.state(END, 0, 0);
        due("net next from its own bit", y.compile(), 3);
        due("net register itself", y.tell(1, 4), 0);
        due("net depth of next", y.count(4), 2);
    }

    private static void where() {
        CircuitDesk x = desk();
        due("7 no compile", x.where(), NONE);
        x.signal(WIRE, 1, 0);
        x.compile();
        due("7 unset", x.where(), 0);
        due("7 told again", x.where(), 0);
        x.signal(INPUT, 1, 0);
        due("7 of the latest compile", x.where(), 0);
        x.clear(1);
        due("7 also behind clear", x.where(), 0);
        x.compile();
        due("7 all was well", x.where(), NONE);
    }

    private static void input() {
        CircuitDesk x = deskWithInputs(3, 8);
        x.signal(WIRE, 3, 0);
        x.signal(REGISTER, 3, 0);
        x.node(NOT, 0, 0, 0);
        x.state(SET, 2, 0);
        due("8 draft", x.input(0, 1), NONE);
        x.compile();
        due("8 0 at first", x.value(0, false), 0);
        due("8 value", x.input(0, 5), 5);
        due("8 kept", x.value(0, false), 5);
        due("8 seen", x.value(2, false), 5);
        due("8 lowest bits", x.input(0, 0x7A), 2);
        due("8 below 0", x.input(1, -2), 254);
        due("8 least", x.input(1, Integer.MIN_VALUE), 0);
        due("8 other kept", x.value(0, false), 2);
        due("8 wire", x.input(2, 1), NONE);
        due("8 register", x.input(3, 1), NONE);
        due("8 node", x.input(4, 1), NONE);
        due("8 none", x.input(5, 1), NONE);
        due("8 below none", x.input(-1, 1), NONE);
        x.clock(1);
        due("8 kept through clock", x.value(0, false), 2);
    }

    private static void clock() {
        CircuitDesk x = desk();
        x.signal(REGISTER, 4, 1);
        x.signal(REGISTER, 4, 2);
        x.signal(REGISTER, 4, 9);
        x.state(SET, 0, 1);
        x.state(SET, 1, 0);
        due("9 draft", x.clock(1), NONE);
        due("9 refused before none", x.clock(0), REFUSED);
        x.compile();
        due("9 n 0", x.clock(0), REFUSED);
        due("9 n 31", x.clock(31), REFUSED);
        due("9 n -1", x.clock(-1), REFUSED);
        due("9 not done", x.value(0, false), 1);
        due("9 once", x.clock(1), 1);
        due("9 at once", x.value(0, false), 2);
        due("9 at once", x.value(1, false), 1);
        due("9 without set", x.value(2, false), 9);
        due("9 thirty", x.clock(30), 31);
        due("9 as before", x.value(0, false), 2);
        due("9 more", x.clock(2), 33);
        due("9 counted", x.count(6), 33);
        CircuitDesk y = desk();
        y.signal(REGISTER, 4, 14);
        y.node(CONSTANT, 1, 1, 0);
        y.node(ADD, 0, 1, 0);
        y.state(SET, 0, 2);
        y.compile();
        y.clock(1);
        due("9 counts", y.value(0, false), 15);
        y.clock(1);
        due("9 foremost bit lost", y.value(0, false), 0);
        y.clock(30);
        due("9 counts on", y.value(0, false), 14);
    }

    private static void reset() {
        CircuitDesk x = deskWithInputs(4);
        x.signal(REGISTER, 4, 6);
        x.state(SET, 1, 0);
        due("10 draft", x.reset(), false);
        x.compile();
        x.input(0, 3);
        x.clock(5);
        due("10 before", x.value(1, false), 3);
        due("10 ready", x.reset(), true);
        due("10 register", x.value(1, false), 6);
        due("10 input", x.value(0, false), 0);
        due("10 clocks", x.count(6), 0);
        due("10 next", x.value(1, true), 0);
        due("10 clock from 0", x.clock(2), 2);
        due("10 still ready", x.count(2), 1);
    }

    private static void value() {
        CircuitDesk x = deskWithInputs(4);
        x.signal(REGISTER, 4, 6);
        x.node(NOT, 0, 0, 0);
        x.signal(WIRE, 2, 0);
        x.state(SET, 1, 2);
        x.state(SET, 3, 2);
        due("11 draft", x.value(0, false), NONE);
        x.compile();
        x.input(0, 4);
        due("11 input", x.value(0, false), 4);
        due("11 input next", x.value(0, true), 4);
        due("11 register", x.value(1, false), 6);
        due("11 register next", x.value(1, true), 11);
        due("11 node", x.value(2, false), 11);
        due("11 node next", x.value(2, true), 11);
        due("11 wire", x.value(3, false), 3);
        due("11 wire next", x.value(3, true), 3);
        due("11 none", x.value(4, false), NONE);
        due("11 below none", x.value(-1, true), NONE);
        x.signal(INPUT, 1, 0);
        due("11 draft again", x.value(0, false), NONE);
    }

    private static int valueOf(int op, int a, int b) {
        CircuitDesk x = deskWithInputs(3, 4);
        x.node(op, 0, 1, 0);
        x.compile();
        x.input(0, a);
        x.input(1, b);
        return x.value(2, false);
    }

    private static void valuesOfOps() {
        for (int a = 0; a < 8; a++) {
            for (int b = 0; b < 16; b++) {
                due("not " + a, valueOf(NOT, a, b), 7 - a);
                due("and " + a + " " + b, valueOf(AND, a, b), a & b);
                due("or " + a + " " + b, valueOf(OR, a, b), a | b);
                due("xor " + a + " " + b, valueOf(XOR, a, b), a ^ b);
                due("add " + a + " " + b, valueOf(ADD, a, b), a + b);
                due("sub " + a + " " + b, valueOf(SUB, a, b), Math.floorMod(a - b, 16));
                due("equal " + a + " " + b, valueOf(EQUAL, a, b), a == b ? 1 : 0);
                due("less " + a + " " + b, valueOf(LESS, a, b), a < b ? 1 : 0);
                due("join " + a + " " + b, valueOf(JOIN, a, b), a * 16 + b);
            }
        }
        CircuitDesk x = deskWithInputs(8, 1, 3);
        x.node(PART, 0, 2, 3);
        x.node(CHOOSE, 1, 0, 2);
        x.node(CONSTANT, 5, 4, 0);
        x.compile();
        x.input(0, 0xB4);
        x.input(2, 6);
        due("part", x.value(3, false), 5);
        due("choose 0", x.value(4, false), 6);
        x.input(1, 1);
        due("choose 1", x.value(4, false), 0xB4);
        due("constant", x.value(5, false), 5);
    }

    private static void valuesOfStatements() {
        CircuitDesk x = deskWithInputs(1, 1, 4);
        x.signal(WIRE, 6, 0);
        x.signal(WIRE, 2, 0);
        x.signal(REGISTER, 4, 9);
        x.node(NOT, 2, 0, 0);
        x.state(SET, 3, 2);
        x.state(SET, 4, 2);
        x.state(WHEN, 0, 0);
        x.state(SET, 3, 6);
        x.state(WHEN, 1, 0);
        x.state(SET, 5, 4);
        x.state(SET, 4, 6);
        x.state(ELSE, 0, 0);
        x.state(SET, 5, 3);
        x.state(END, 0, 0);
        x.state(END, 0, 0);
        x.compile();
        x.input(2, 5);
        due("last set, bits 0 in front", x.value(3, false), 5);
        due("last set, without foremost bits", x.value(4, false), 1);
        due("no set done", x.value(5, true), 9);
        x.input(0, 1);
        due("set in when", x.value(3, false), 10);
        due("not in inner when", x.value(4, false), 1);
        due("uses the last value", x.value(5, true), 10);
        x.input(1, 1);
        due("set in inner when", x.value(4, false), 2);
        due("uses the last value, whatever the order", x.value(5, true), 2);
        x.input(0, 0);
        due("outer when not done", x.value(5, true), 9);
    }

    private static void tell() {
        CircuitDesk x = deskWithInputs(3);
        x.signal(WIRE, 5, 0);
        x.signal(REGISTER, 2, 0);
        x.node(LESS, 0, 1, 0);
        x.node(CONSTANT, 2, 3, 0);
        x.node(AND, 4, 0, 0);
        x.node(NOT, 3, 0, 0);
        due("12 kind", x.tell(0, 0), INPUT);
        due("12 kind", x.tell(1, 0), WIRE);
        due("12 kind", x.tell(2, 0), REGISTER);
        due("12 kind", x.tell(3, 0), NODE);
        due("12 width", x.tell(1, 1), 5);
        due("12 width", x.tell(3, 1), 1);
        due("12 op of input", x.tell(0, 2), NONE);
        due("12 op of wire", x.tell(1, 2), NONE);
        due("12 op of register", x.tell(2, 2), NONE);
        due("12 op of node", x.tell(3, 2), LESS);
        due("12 fixed bits in a draft", x.tell(4, 3), NONE);
        due("12 depth in a draft", x.tell(4, 4), NONE);
        x.state(SET, 1, 0);
        x.compile();
        due("12 fixed bits of input", x.tell(0, 3), 0);
        due("12 fixed bits in front", x.tell(1, 3), 2);
        due("12 fixed bits of register", x.tell(2, 3), 0);
        due("12 fixed bits of constant", x.tell(4, 3), 3);
        due("12 fixed bits of and", x.tell(5, 3), 2);
        due("12 depth of wire", x.tell(1, 4), 0);
        due("12 depth of constant", x.tell(4, 4), 0);
        due("12 depth of and true", x.tell(5, 4), 0);
        due("12 depth of opposite", x.tell(6, 4), x.tell(3, 4));
        due("12 what -1", x.tell(0, -1), REFUSED);
        due("12 what 5", x.tell(0, 5), REFUSED);
        due("12 refused before none", x.tell(9, 5), REFUSED);
        for (int what = 0; what <= 4; what++) {
            due("12 none", x.tell(7, what), NONE);
            due("12 below none", x.tell(-1, what), NONE);
        }
        CircuitDesk y = deskWithInputs(1, 1);
        y.node(AND, 0, 1, 0);
        y.node(ADD, 0, 1, 0);
        y.compile();
        due("12 depth 1", y.tell(2, 4), 1);
        due("12 greatest depth of bits", y.tell(3, 4), 2);
    }

    private static void count() {
        CircuitDesk x = deskWithInputs(1, 1);
        x.signal(REGISTER, 1, 0);
        x.node(XOR, 0, 1, 0);
        x.state(SET, 2, 3);
        due("13 signals", x.count(0), 4);
        due("13 statements", x.count(1), 1);
        due("13 draft", x.count(2), 0);
        for (int what = 3; what <= 6; what++) {
            due("13 none in a draft", x.count(what), NONE);
        }
        due("13 whens", x.count(7), 0);
        due("13 what -1", x.count(-1), REFUSED);
        due("13 what 8", x.count(8), REFUSED);
        due("13 compile", x.compile(), 3);
        due("13 ready", x.count(2), 1);
        due("13 gates", x.count(3), 3);
        due("13 depth", x.count(4), 2);
        due("13 ones: neither", x.count(5), 1);
        x.input(0, 1);
        due("13 ones: differ", x.count(5), 1);
        due("13 differ", x.value(3, false), 1);
        x.input(1, 1);
        due("13 ones: both", x.count(5), 1);
        x.clock(7);
        due("13 clocks", x.count(6), 7);
        x.state(WHEN, 0, 0);
        x.state(WHEN, 0, 0);
        due("13 whens", x.count(7), 2);
        due("13 clocks in a draft", x.count(6), NONE);
        x.clear(1);
        due("13 no gates left", x.compile(), 0);
        due("13 no depth left", x.count(4), 0);
        due("13 no ones left", x.count(5), 0);
    }

    private static void orderAndLimits() {
        CircuitDesk x = desk();
        x.compile();
        due("14 ready", x.count(2), 1);
        due("14 nothing to clear", x.clear(0), 0);
        due("14 a draft", x.count(2), 0);
        x.compile();
        due("14 nothing to clear", x.clear(1), 0);
        due("14 a draft", x.count(2), 0);
        x.compile();
        x.signal(INPUT, 1, 0);
        due("14 signal makes a draft", x.count(2), 0);
        x.compile();
        x.node(NOT, 0, 0, 0);
        due("14 node makes a draft", x.count(2), 0);
        x.compile();
        x.state(WHEN, 0, 0);
        due("14 state makes a draft", x.count(2), 0);
    }

    private static void refusedCallsChangeNothing() {
        CircuitDesk x = deskWithInputs(2);
        x.signal(REGISTER, 2, 1);
        x.state(SET, 1, 0);
        x.compile();
        x.input(0, 3);
        x.clock(2);
        due("14 signal", x.signal(3, 1, 0), REFUSED);
        due("14 node", x.node(12, 0, 0, 0), REFUSED);
        due("14 state", x.state(SET, 0, 0), REFUSED);
        due("14 else", x.state(ELSE, 0, 0), NONE);
        due("14 end", x.state(END, 0, 0), NONE);
        due("14 clear", x.clear(5), REFUSED);
        due("14 input", x.input(1, 0), NONE);
        due("14 clock", x.clock(31), REFUSED);
        due("14 ready", x.count(2), 1);
        due("14 clocks", x.count(6), 2);
        due("14 input kept", x.value(0, false), 3);
        due("14 register kept", x.value(1, false), 3);
        for (int i = 2; i < 14; i++) {
            x.signal(INPUT, 1, 0);
        }
        x.compile();
        due("14 full", x.signal(INPUT, 1, 0), FULL);
        due("14 full", x.node(NOT, 0, 0, 0), FULL);
        due("14 still ready", x.count(2), 1);
    }
}
