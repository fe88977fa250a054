/** The ordinary use of each promise, worked out by hand; boundary cases have tests of their own. */
public final class PromiseTests extends DeskTest {
    public static void main(String[] args) {
        runTestsOf(PromiseTests.class, 2, 3, 4, 5, 7, 8, 9, 10, 11, 12, 13);
    }

    static void promise02Signal() {
        CircuitDesk x = desk();
        for (int i = 0; i < 14; i++) {
            due("number", x.signal(i % 3, i % 8 + 1, 255), i);
            due("kind", x.tell(i, 0), i % 3);
            due("width", x.tell(i, 1), i % 8 + 1);
        }
        due("full", x.signal(INPUT, 1, 0), FULL);
        due("refused before full", x.signal(INPUT, 9, 0), REFUSED);
        due("still 14", x.count(0), 14);
        CircuitDesk y = desk();
        y.signal(REGISTER, 3, 0xFA);
        y.signal(REGISTER, 8, 255);
        y.compile();
        due("lowest bits of reset", y.value(0, false), 2);
        due("whole reset", y.value(1, false), 255);
    }

    static void promise03Node() {
        CircuitDesk x = deskWithInputs(3, 5, 1);
        int[][] ops = {
            {NOT, 0, -9, -9, 3}, {AND, 0, 1, -9, 5}, {OR, 1, 0, -9, 5}, {XOR, 0, 1, -9, 5},
            {ADD, 0, 1, -9, 6}, {SUB, 0, 1, -9, 5}, {EQUAL, 0, 1, -9, 1}, {LESS, 0, 1, -9, 1},
            {JOIN, 0, 1, -9, 8}, {PART, 1, 1, 4, 4}, {CHOOSE, 2, 0, 1, 5}
        };
        int number = 3;
        for (int[] o : ops) {
            due("number of op " + o[0], x.node(o[0], o[1], o[2], o[3]), number);
            due("kind of op " + o[0], x.tell(number, 0), NODE);
            due("width of op " + o[0], x.tell(number, 1), o[4]);
            due("op of op " + o[0], x.tell(number, 2), o[0]);
            number++;
        }
        due("full", x.node(NOT, 0, 0, 0), FULL);
        due("refused before full", x.node(NOT, 14, 0, 0), REFUSED);
        CircuitDesk y = desk();
        due("constant", y.node(CONSTANT, 5, 3, 0), 0);
        due("width of constant", y.tell(0, 1), 3);
    }

    static void promise04State() {
        CircuitDesk x = deskWithInputs(1, 4);
        x.signal(WIRE, 4, 0);
        x.signal(REGISTER, 4, 0);
        due("set wire", x.state(SET, 2, 1), 1);
        due("set register", x.state(SET, 3, 2), 2);
        due("when", x.state(WHEN, 0, -9), 3);
        due("depth", x.count(7), 1);
        due("set within", x.state(SET, 3, 3), 4);
        due("when within", x.state(WHEN, 0, 99), 5);
        due("depth", x.count(7), 2);
        due("else of inner", x.state(ELSE, -9, -9), 6);
        due("no second else", x.state(ELSE, 0, 0), NONE);
        due("end of inner", x.state(END, 99, 99), 7);
        due("else of outer", x.state(ELSE, 0, 0), 8);
        due("no second else", x.state(ELSE, 0, 0), NONE);
        due("when in second part", x.state(WHEN, 0, 0), 9);
        due("else of new one", x.state(ELSE, 0, 0), 10);
        due("end", x.state(END, 0, 0), 11);
        due("still no second else", x.state(ELSE, 0, 0), NONE);
        due("end", x.state(END, 0, 0), 12);
        due("depth", x.count(7), 0);
        due("end without when", x.state(END, 0, 0), NONE);
        due("else without when", x.state(ELSE, 0, 0), NONE);
        due("how many", x.count(1), 12);
    }

    static void promise05Clear() {
        CircuitDesk x = deskWithInputs(1);
        x.signal(REGISTER, 2, 3);
        x.state(WHEN, 0, 0);
        x.state(SET, 1, 0);
        due("what -1", x.clear(-1), REFUSED);
        due("what 2", x.clear(2), REFUSED);
        due("kept", x.count(1), 2);
        due("statements", x.clear(0), 2);
        due("none now", x.count(1), 0);
        due("no when", x.count(7), 0);
        due("signals kept", x.count(0), 2);
        due("no end", x.state(END, 0, 0), NONE);
        due("again", x.clear(0), 0);
        x.state(SET, 1, 0);
        due("all", x.clear(1), 1);
        due("no signals", x.count(0), 0);
        due("no statements", x.count(1), 0);
        due("numbers from 0", x.signal(WIRE, 1, 0), 0);
        due("no else left", x.state(WHEN, 0, 0), 1);
        due("else is new", x.state(ELSE, 0, 0), 2);
    }

    static void promise07Where() {
        CircuitDesk x = desk();
        due("no compile", x.where(), NONE);
        x.signal(WIRE, 1, 0);
        x.compile();
        due("unset", x.where(), 0);
        due("told again", x.where(), 0);
        x.signal(INPUT, 1, 0);
        due("of the latest compile", x.where(), 0);
        x.clear(1);
        due("also behind clear", x.where(), 0);
        x.compile();
        due("all was well", x.where(), NONE);
    }

    static void promise08Input() {
        CircuitDesk x = deskWithInputs(3, 8);
        x.signal(WIRE, 3, 0);
        x.signal(REGISTER, 3, 0);
        x.node(NOT, 0, 0, 0);
        x.state(SET, 2, 0);
        due("draft", x.input(0, 1), NONE);
        x.compile();
        due("0 at first", x.value(0, false), 0);
        due("value", x.input(0, 5), 5);
        due("kept", x.value(0, false), 5);
        due("seen", x.value(2, false), 5);
        due("lowest bits", x.input(0, 0x7A), 2);
        due("below 0", x.input(1, -2), 254);
        due("least", x.input(1, Integer.MIN_VALUE), 0);
        due("other kept", x.value(0, false), 2);
        due("wire", x.input(2, 1), NONE);
        due("register", x.input(3, 1), NONE);
        due("node", x.input(4, 1), NONE);
        due("none", x.input(5, 1), NONE);
        due("below none", x.input(-1, 1), NONE);
        x.clock(1);
        due("kept through clock", x.value(0, false), 2);
    }

    static void promise09Clock() {
        CircuitDesk x = desk();
        x.signal(REGISTER, 4, 1);
        x.signal(REGISTER, 4, 2);
        x.signal(REGISTER, 4, 9);
        x.state(SET, 0, 1);
        x.state(SET, 1, 0);
        due("draft", x.clock(1), NONE);
        due("refused before none", x.clock(0), REFUSED);
        x.compile();
        due("n 0", x.clock(0), REFUSED);
        due("n 31", x.clock(31), REFUSED);
        due("n -1", x.clock(-1), REFUSED);
        due("not done", x.value(0, false), 1);
        due("once", x.clock(1), 1);
        due("at once", x.value(0, false), 2);
        due("at once", x.value(1, false), 1);
        due("without set", x.value(2, false), 9);
        due("thirty", x.clock(30), 31);
        due("as before", x.value(0, false), 2);
        due("more", x.clock(2), 33);
        due("counted", x.count(6), 33);
        CircuitDesk y = desk();
        y.signal(REGISTER, 4, 14);
        y.node(CONSTANT, 1, 1, 0);
        y.node(ADD, 0, 1, 0);
        y.state(SET, 0, 2);
        y.compile();
        y.clock(1);
        due("counts", y.value(0, false), 15);
        y.clock(1);
        due("foremost bit lost", y.value(0, false), 0);
        y.clock(30);
        due("counts on", y.value(0, false), 14);
    }

    static void promise10Reset() {
        CircuitDesk x = deskWithInputs(4);
        x.signal(REGISTER, 4, 6);
        x.state(SET, 1, 0);
        due("draft", x.reset(), false);
        x.compile();
        x.input(0, 3);
        x.clock(5);
        due("before", x.value(1, false), 3);
        due("ready", x.reset(), true);
        due("register", x.value(1, false), 6);
        due("input", x.value(0, false), 0);
        due("clocks", x.count(6), 0);
        due("next", x.value(1, true), 0);
        due("clock from 0", x.clock(2), 2);
        due("still ready", x.count(2), 1);
    }

    static void promise11Value() {
        CircuitDesk x = deskWithInputs(4);
        x.signal(REGISTER, 4, 6);
        x.node(NOT, 0, 0, 0);
        x.signal(WIRE, 2, 0);
        x.state(SET, 1, 2);
        x.state(SET, 3, 2);
        due("draft", x.value(0, false), NONE);
        x.compile();
        x.input(0, 4);
        due("input", x.value(0, false), 4);
        due("input next", x.value(0, true), 4);
        due("register", x.value(1, false), 6);
        due("register next", x.value(1, true), 11);
        due("node", x.value(2, false), 11);
        due("node next", x.value(2, true), 11);
        due("wire", x.value(3, false), 3);
        due("wire next", x.value(3, true), 3);
        due("none", x.value(4, false), NONE);
        due("below none", x.value(-1, true), NONE);
        x.signal(INPUT, 1, 0);
        due("draft again", x.value(0, false), NONE);
    }

    private static int valueOf(int op, int a, int b) {
        CircuitDesk x = deskWithInputs(3, 4);
        x.node(op, 0, 1, 0);
        x.compile();
        x.input(0, a);
        x.input(1, b);
        return x.value(2, false);
    }

    static void promise11ValuesOfOps() {
        for (int a = 0; a < 8; a++) {
            for (int b = 0; b < 16; b++) {
                due("not " + a, valueOf(NOT, a, b), 7 - a);
                due("and " + a + " " + b, valueOf(AND, a, b), a & b);
                due("or " + a + " " + b, valueOf(OR, a, b), a | b);
                due("xor " + a + " " + b, valueOf(XOR, a, b), a ^ b);
                due("add " + a + " " + b, valueOf(ADD, a, b), a + b);
                due("sub " + a + " " + b, valueOf(SUB, a, b), Math.floorMod(a - b, 16));
                due("equal " + a + " " + b, valueOf(EQUAL, a, b), a == b ? 1 : 0);
                due("less " + a + " " + b, valueOf(LESS, a, b), a < b ? 1 : 0);
                due("join " + a + " " + b, valueOf(JOIN, a, b), a * 16 + b);
            }
        }
        CircuitDesk x = deskWithInputs(8, 1, 3);
        x.node(PART, 0, 2, 3);
        x.node(CHOOSE, 1, 0, 2);
        x.node(CONSTANT, 5, 4, 0);
        x.compile();
        x.input(0, 0xB4);
        x.input(2, 6);
        due("part", x.value(3, false), 5);
        due("choose 0", x.value(4, false), 6);
        x.input(1, 1);
        due("choose 1", x.value(4, false), 0xB4);
        due("constant", x.value(5, false), 5);
    }

    static void promise11ValuesOfStatements() {
        CircuitDesk x = deskWithInputs(1, 1, 4);
        x.signal(WIRE, 6, 0);
        x.signal(WIRE, 2, 0);
        x.signal(REGISTER, 4, 9);
        x.node(NOT, 2, 0, 0);
        x.state(SET, 3, 2);
        x.state(SET, 4, 2);
        x.state(WHEN, 0, 0);
        x.state(SET, 3, 6);
        x.state(WHEN, 1, 0);
        x.state(SET, 5, 4);
        x.state(SET, 4, 6);
        x.state(ELSE, 0, 0);
        x.state(SET, 5, 3);
        x.state(END, 0, 0);
        x.state(END, 0, 0);
        x.compile();
        x.input(2, 5);
        due("last set, bits 0 in front", x.value(3, false), 5);
        due("last set, without foremost bits", x.value(4, false), 1);
        due("no set done", x.value(5, true), 9);
        x.input(0, 1);
        due("set in when", x.value(3, false), 10);
        due("not in inner when", x.value(4, false), 1);
        due("uses the last value", x.value(5, true), 10);
        x.input(1, 1);
        due("set in inner when", x.value(4, false), 2);
        due("uses the last value, whatever the order", x.value(5, true), 2);
        x.input(0, 0);
        due("outer when not done", x.value(5, true), 9);
    }

    static void promise12Tell() {
        CircuitDesk x = deskWithInputs(3);
        x.signal(WIRE, 5, 0);
        x.signal(REGISTER, 2, 0);
        x.node(LESS, 0, 1, 0);
        x.node(CONSTANT, 2, 3, 0);
        x.node(AND, 4, 0, 0);
        x.node(NOT, 3, 0, 0);
        due("kind", x.tell(0, 0), INPUT);
        due("kind", x.tell(1, 0), WIRE);
        due("kind", x.tell(2, 0), REGISTER);
        due("kind", x.tell(3, 0), NODE);
        due("width", x.tell(1, 1), 5);
        due("width", x.tell(3, 1), 1);
        due("op of input", x.tell(0, 2), NONE);
        due("op of wire", x.tell(1, 2), NONE);
        due("op of register", x.tell(2, 2), NONE);
        due("op of node", x.tell(3, 2), LESS);
        due("fixed bits in a draft", x.tell(4, 3), NONE);
        due("depth in a draft", x.tell(4, 4), NONE);
        x.state(SET, 1, 0);
        x.compile();
        due("fixed bits of input", x.tell(0, 3), 0);
        due("fixed bits in front", x.tell(1, 3), 2);
        due("fixed bits of register", x.tell(2, 3), 0);
        due("fixed bits of constant", x.tell(4, 3), 3);
        due("fixed bits of and", x.tell(5, 3), 2);
        due("depth of wire", x.tell(1, 4), 0);
        due("depth of constant", x.tell(4, 4), 0);
        due("depth of and true", x.tell(5, 4), 0);
        due("depth of opposite", x.tell(6, 4), x.tell(3, 4));
        due("what -1", x.tell(0, -1), REFUSED);
        due("what 5", x.tell(0, 5), REFUSED);
        due("refused before none", x.tell(9, 5), REFUSED);
        for (int what = 0; what <= 4; what++) {
            due("none", x.tell(7, what), NONE);
            due("below none", x.tell(-1, what), NONE);
        }
        CircuitDesk y = deskWithInputs(1, 1);
        y.node(AND, 0, 1, 0);
        y.node(ADD, 0, 1, 0);
        y.compile();
        due("depth 1", y.tell(2, 4), 1);
        due("greatest depth of bits", y.tell(3, 4), 2);
    }

    static void promise13Count() {
        CircuitDesk x = deskWithInputs(1, 1);
        x.signal(REGISTER, 1, 0);
        x.node(XOR, 0, 1, 0);
        x.state(SET, 2, 3);
        due("signals", x.count(0), 4);
        due("statements", x.count(1), 1);
        due("draft", x.count(2), 0);
        for (int what = 3; what <= 6; what++) {
            due("none in a draft", x.count(what), NONE);
        }
        due("whens", x.count(7), 0);
        due("what -1", x.count(-1), REFUSED);
        due("what 8", x.count(8), REFUSED);
        due("compile", x.compile(), 3);
        due("ready", x.count(2), 1);
        due("gates", x.count(3), 3);
        due("depth", x.count(4), 2);
        due("ones: neither", x.count(5), 1);
        x.input(0, 1);
        due("ones: differ", x.count(5), 1);
        due("differ", x.value(3, false), 1);
        x.input(1, 1);
        due("ones: both", x.count(5), 1);
        x.clock(7);
        due("clocks", x.count(6), 7);
        x.state(WHEN, 0, 0);
        x.state(WHEN, 0, 0);
        due("whens", x.count(7), 2);
        due("clocks in a draft", x.count(6), NONE);
        x.clear(1);
        due("no gates left", x.compile(), 0);
        due("no depth left", x.count(4), 0);
        due("no ones left", x.count(5), 0);
    }
}
