/**
 * The boundary cases that the document's "Terms" name, a test for each sentence: how OPS and
 * STATEMENTS compute (seen by value, promise 11) and which GATES are made (seen by compile, 6).
 */
public final class TermsBoundaryTests extends DeskTest {
    public static void main(String[] args) {
        runTestsOf(TermsBoundaryTests.class, 6, 11);
    }

    /** The value of a NODE of two INPUTS. */
    private static int valueOf(int op, int widthA, int a, int widthB, int b) {
        CircuitDesk x = deskWithInputs(widthA, widthB);
        x.node(op, 0, 1, 0);
        x.compile();
        x.input(0, a);
        x.input(1, b);
        return x.value(2, false);
    }

    /** The GATES of a NODE of INPUTS 0, 1, 2, NODE 3 (the opposite of 0), 4 (0) and 5 (1). */
    private static int gatesOf(int op, int a, int b, int c) {
        return deskWithNode(op, a, b, c).compile();
    }

    private static CircuitDesk deskWithNode(int op, int a, int b, int c) {
        CircuitDesk x = deskWithInputs(1, 1, 1);
        x.node(NOT, 0, 0, 0);
        x.node(CONSTANT, 0, 1, 0);
        x.node(CONSTANT, 1, 1, 0);
        due("node", x.node(op, a, b, c), 6);
        return x;
    }

    static void promise11NotTurnsEachBit() {
        for (int width = 1; width <= MOST_WIDTH; width++) {
            due("of 0", valueOf(NOT, width, 0, 1, 0), greatest(width));
            due("of all", valueOf(NOT, width, greatest(width), 1, 0), 0);
        }
    }

    static void promise11AShorterOneHasBits0InFront() {
        due("and, a shorter", valueOf(AND, 1, 1, 8, 255), 1);
        due("and, b shorter", valueOf(AND, 8, 255, 1, 1), 1);
        due("or, a shorter", valueOf(OR, 1, 1, 8, 128), 129);
        due("or, b shorter", valueOf(OR, 8, 128, 1, 1), 129);
        due("xor, a shorter", valueOf(XOR, 1, 1, 8, 255), 254);
        due("xor, b shorter", valueOf(XOR, 8, 255, 1, 1), 254);
        due("equal, a shorter", valueOf(EQUAL, 1, 1, 8, 129), 0);
        due("equal, b shorter", valueOf(EQUAL, 8, 129, 1, 1), 0);
        due("equal all the same", valueOf(EQUAL, 1, 1, 8, 1), 1);
        due("less, a shorter", valueOf(LESS, 1, 1, 8, 128), 1);
        due("less, b shorter", valueOf(LESS, 8, 128, 1, 1), 0);
    }

    static void promise11AddGoesUpToTheLastBit() {
        for (int width = 1; width < MOST_WIDTH; width++) {
            int most = greatest(width);
            due("greatest of " + width, valueOf(ADD, width, most, width, most), 2 * most);
            due("greatest and 1 of " + width, valueOf(ADD, width, most, 1, 1), most + 1);
            due("1 and greatest of " + width, valueOf(ADD, 1, 1, width, most), most + 1);
            due("0 and 0 of " + width, valueOf(ADD, width, 0, width, 0), 0);
        }
    }

    static void promise11SubIsModulo2ToThePowerOfWidth() {
        for (int width = 1; width <= MOST_WIDTH; width++) {
            int most = greatest(width);
            due("0 less 1 of " + width, valueOf(SUB, width, 0, width, 1), most);
            due("0 less greatest of " + width, valueOf(SUB, width, 0, width, most), 1);
            due("greatest less itself of " + width, valueOf(SUB, width, most, width, most), 0);
            due("greatest less 0 of " + width, valueOf(SUB, width, most, width, 0), most);
        }
    }

    static void promise11SubHasTheGreaterWidth() {
        due("a shorter", valueOf(SUB, 1, 0, 8, 1), 255);
        due("a shorter, greatest b", valueOf(SUB, 1, 1, 8, 255), 2);
        due("b shorter", valueOf(SUB, 8, 0, 1, 1), 255);
        due("b shorter, no wrap", valueOf(SUB, 8, 128, 1, 1), 127);
    }

    static void promise11LessAndEqualAtTheirEdges() {
        for (int width = 1; width <= MOST_WIDTH; width++) {
            int most = greatest(width);
            due("the same", valueOf(LESS, width, most, width, most), 0);
            due("one less", valueOf(LESS, width, most - 1, width, most), 1);
            due("one more", valueOf(LESS, width, most, width, most - 1), 0);
            due("0 and greatest", valueOf(LESS, width, 0, width, most), 1);
            due("greatest and 0", valueOf(LESS, width, most, width, 0), 0);
            due("0 and 0", valueOf(LESS, width, 0, width, 0), 0);
            due("equal", valueOf(EQUAL, width, most, width, most), 1);
            due("equal 0", valueOf(EQUAL, width, 0, width, 0), 1);
            due("unequal in the foremost bit", valueOf(EQUAL, width, 0, width, 1 << width - 1), 0);
            due("unequal in bit 0", valueOf(EQUAL, width, 0, width, 1), 0);
        }
    }

    static void promise11JoinHasTheBitsOfABefore() {
        for (int width = 1; width < MOST_WIDTH; width++) {
            int rest = MOST_WIDTH - width;
            due("only a", valueOf(JOIN, width, greatest(width), rest, 0), greatest(width) << rest);
            due("only b", valueOf(JOIN, width, 0, rest, greatest(rest)), greatest(rest));
        }
    }

    static void promise11PartFromTheFirstToTheLastBit() {
        for (int from = 0; from < MOST_WIDTH; from++) {
            for (int many = 1; from + many <= MOST_WIDTH; many++) {
                CircuitDesk x = deskWithInputs(8);
                x.node(PART, 0, from, many);
                x.compile();
                x.input(0, 0xB5);
                due(many + " from " + from, x.value(1, false), 0xB5 >> from & greatest(many));
            }
        }
    }

    static void promise11ChooseOfDifferentWidths() {
        int[][] widths = {{8, 1}, {1, 8}};
        for (int[] width : widths) {
            CircuitDesk x = deskWithInputs(1, width[0], width[1]);
            x.node(CHOOSE, 0, 1, 2);
            due("width", x.tell(3, 1), 8);
            x.compile();
            x.input(1, 255);
            x.input(2, 255);
            due("c if 0", x.value(3, false), greatest(width[1]));
            x.input(0, 1);
            due("b if 1", x.value(3, false), greatest(width[0]));
        }
    }

    static void promise11SetOfAShorterOneHasBits0InFront() {
        for (int kind = WIRE; kind <= REGISTER; kind++) {
            CircuitDesk x = deskWithInputs(3);
            x.signal(kind, 8, 255);
            x.state(SET, 1, 0);
            x.compile();
            x.input(0, 7);
            due("kind " + kind, x.value(1, true), 7);
            x.clock(1);
            due("kind " + kind + " behind a clock", x.value(1, false), 7);
        }
    }

    static void promise11SetOfALongerOneIsWithoutItsForemostBits() {
        for (int kind = WIRE; kind <= REGISTER; kind++) {
            CircuitDesk x = deskWithInputs(8);
            x.signal(kind, 3, 0);
            x.state(SET, 1, 0);
            x.compile();
            x.input(0, 0xFA);
            due("kind " + kind, x.value(1, true), 2);
            x.clock(1);
            due("kind " + kind + " behind a clock", x.value(1, false), 2);
            due("the longer one", x.value(0, false), 0xFA);
        }
    }

    static void promise11TheLastSetThatWasDoneCounts() {
        for (int kind = WIRE; kind <= REGISTER; kind++) {
            CircuitDesk x = deskWithInputs(1, 2, 2, 2);
            x.signal(kind, 2, 0);
            x.state(SET, 4, 1);
            x.state(SET, 4, 2);
            x.state(WHEN, 0, 0);
            x.state(SET, 4, 1);
            x.state(SET, 4, 3);
            x.state(END, 0, 0);
            x.compile();
            x.input(1, 1);
            x.input(2, 2);
            x.input(3, 3);
            due("not within", x.value(4, true), 2);
            x.input(0, 1);
            due("within", x.value(4, true), 3);
            x.state(SET, 4, 1);
            x.compile();
            x.input(0, 1);
            x.input(1, 1);
            x.input(3, 3);
            due("behind", x.value(4, true), 1);
        }
    }

    static void promise11AWhenWithoutElseHasAnEmptySecondPart() {
        CircuitDesk x = deskWithInputs(1, 2);
        x.signal(REGISTER, 2, 1);
        x.state(WHEN, 0, 0);
        x.state(SET, 2, 1);
        x.state(END, 0, 0);
        x.compile();
        x.input(1, 2);
        due("0: as it was", x.value(2, true), 1);
        x.input(0, 1);
        due("1: set", x.value(2, true), 2);
    }

    static void promise11AWhenWithAnEmptyFirstPart() {
        CircuitDesk x = deskWithInputs(1, 2);
        x.signal(REGISTER, 2, 1);
        x.state(WHEN, 0, 0);
        x.state(ELSE, 0, 0);
        x.state(SET, 2, 1);
        x.state(END, 0, 0);
        x.compile();
        x.input(1, 2);
        due("0: set", x.value(2, true), 2);
        x.input(0, 1);
        due("1: as it was", x.value(2, true), 1);
    }

    /** INPUTS 0 to 3 are the conditions of four WHENS, each in the first PART of the one before. */
    static void promise11FourWhensWithinOneAnother() {
        CircuitDesk x = deskWithInputs(1, 1, 1, 1);
        x.signal(WIRE, 3, 0);
        for (int value = 0; value <= 4; value++) {
            x.node(CONSTANT, value, 3, 0);
        }
        for (int i = 0; i < 4; i++) {
            x.state(WHEN, i, 0);
        }
        x.state(SET, 4, 9);
        for (int i = 3; i >= 0; i--) {
            x.state(ELSE, 0, 0);
            x.state(SET, 4, 5 + i);
            x.state(END, 0, 0);
        }
        due("statements", x.count(1), 17);
        x.compile();
        for (int i = 0; i < 4; i++) {
            due("first " + i + " are 1", x.value(4, false), i);
            x.input(i, 1);
        }
        due("all are 1", x.value(4, false), 4);
        x.input(1, 0);
        due("the second one is 0", x.value(4, false), 1);
    }

    static void promise11LastValuesWhateverTheOrder() {
        CircuitDesk x = deskWithInputs(4, 4);
        x.signal(WIRE, 4, 0);
        x.signal(WIRE, 4, 0);
        x.node(NOT, 3, 0, 0);
        x.signal(REGISTER, 4, 0);
        x.state(SET, 5, 2);
        x.state(SET, 2, 4);
        x.state(SET, 3, 0);
        x.state(SET, 3, 1);
        x.compile();
        x.input(0, 3);
        x.input(1, 12);
        due("set before its source", x.value(2, false), 3);
        due("register", x.value(5, true), 3);
    }

    static void promise06JoinWithFalseIsFalse() {
        due("false before", gatesOf(AND, 4, 1, 0), 0);
        due("false behind", gatesOf(AND, 1, 4, 0), 0);
        CircuitDesk x = deskWithNode(AND, 1, 4, 0);
        x.compile();
        due("false", x.tell(6, 3), 1);
    }

    static void promise06JoinOfOppositesIsFalse() {
        due("opposite behind", gatesOf(AND, 0, 3, 0), 0);
        due("opposite before", gatesOf(AND, 3, 0, 0), 0);
        CircuitDesk x = deskWithNode(AND, 0, 3, 0);
        x.compile();
        due("false", x.tell(6, 3), 1);
        due("value", x.value(6, false), 0);
    }

    static void promise06JoinWithTrueIsTheOtherOne() {
        int[][] pairs = {{1, 5}, {5, 1}};
        for (int[] pair : pairs) {
            CircuitDesk x = deskWithNode(AND, pair[0], pair[1], 0);
            due("gates", x.compile(), 0);
            due("not fixed", x.tell(6, 3), 0);
            x.input(1, 1);
            due("value", x.value(6, false), 1);
        }
    }

    static void promise06JoinOfTheSameIsThat() {
        CircuitDesk x = deskWithNode(AND, 1, 1, 0);
        due("gates", x.compile(), 0);
        due("not fixed", x.tell(6, 3), 0);
        x.input(1, 1);
        due("value", x.value(6, false), 1);
    }

    static void promise06TheGateOfBothIsMadeOnce() {
        CircuitDesk x = deskWithInputs(1, 1);
        x.node(AND, 0, 1, 0);
        due("one", x.compile(), 1);
        x.node(AND, 0, 1, 0);
        due("the same", x.compile(), 1);
        x.node(AND, 1, 0, 0);
        due("in the other order", x.compile(), 1);
        x.node(NOT, 0, 0, 0);
        x.node(NOT, 1, 0, 0);
        x.node(OR, 5, 6, 0);
        due("either of the opposites", x.compile(), 1);
        x.node(AND, 0, 6, 0);
        due("with an opposite", x.compile(), 2);
        x.node(AND, 5, 1, 0);
        due("with the other opposite", x.compile(), 3);
        x.node(AND, 5, 6, 0);
        due("of both opposites", x.compile(), 4);
    }

    static void promise06TheOppositeOfFalseIsTrue() {
        CircuitDesk x = deskWithNode(NOT, 4, 0, 0);
        x.node(AND, 6, 1, 0);
        due("gates", x.compile(), 0);
        due("true", x.tell(6, 3), 1);
        due("value", x.value(6, false), 1);
        due("joined with it", x.tell(7, 3), 0);
    }

    static void promise06EitherIsTheOppositeOfOppositesJoined() {
        due("or", gatesOf(OR, 0, 1, 0), 1);
        due("or false", gatesOf(OR, 0, 4, 0), 0);
        due("or true", gatesOf(OR, 5, 0, 0), 0);
        due("or of opposites", gatesOf(OR, 0, 3, 0), 0);
    }

    static void promise06PickOfTheSameIsThat() {
        due("the same", gatesOf(CHOOSE, 0, 1, 1), 0);
        due("both false", gatesOf(CHOOSE, 0, 4, 4), 0);
        due("condition true", gatesOf(CHOOSE, 5, 1, 2), 0);
        due("condition false", gatesOf(CHOOSE, 4, 1, 2), 0);
        due("of both", gatesOf(CHOOSE, 0, 1, 2), 3);
        due("itself or another", gatesOf(CHOOSE, 0, 0, 1), 2);
        due("opposites", gatesOf(CHOOSE, 1, 0, 3), 3);
        due("true or false", gatesOf(CHOOSE, 0, 5, 4), 0);
        due("another or false", gatesOf(CHOOSE, 0, 1, 4), 1);
    }

    static void promise06DiffOfFixedOrTheSame() {
        due("diff", gatesOf(XOR, 0, 1, 0), 3);
        due("the same", gatesOf(XOR, 1, 1, 0), 0);
        due("opposites", gatesOf(XOR, 0, 3, 0), 0);
        due("true", gatesOf(XOR, 1, 5, 0), 0);
        due("false", gatesOf(XOR, 4, 1, 0), 0);
    }

    static void promise06ABitInFrontOfAShorterOneIsFalse() {
        CircuitDesk x = deskWithInputs(8, 1);
        x.node(AND, 0, 1, 0);
        due("and", x.compile(), 1);
        due("false in front", x.tell(2, 3), 7);
        x.node(OR, 0, 1, 0);
        due("or", x.compile(), 2);
        due("as they are", x.tell(3, 3), 0);
        CircuitDesk y = deskWithInputs(2, 1);
        y.node(ADD, 0, 1, 0);
        due("add", y.compile(), 6);
    }

    static void promise06AddOfItself() {
        CircuitDesk x = deskWithInputs(7);
        x.node(ADD, 0, 0, 0);
        due("gates", x.compile(), 0);
        due("bit 0 is false", x.tell(1, 3), 1);
        x.input(0, 127);
        due("value", x.value(1, false), 254);
    }

    static void promise06SubLessAndEqualOfItself() {
        int[] ops = {SUB, LESS, EQUAL};
        for (int op : ops) {
            CircuitDesk x = deskWithInputs(8);
            x.node(op, 0, 0, 0);
            due("op " + op, x.compile(), 0);
            due("all fixed", x.tell(1, 3), op == SUB ? 8 : 1);
            x.input(0, 77);
            due("value", x.value(1, false), op == EQUAL ? 1 : 0);
        }
    }

    static void promise06LessMakesTheBitsOfSubToo() {
        for (int width = 1; width <= MOST_WIDTH; width++) {
            CircuitDesk x = deskWithInputs(width, width);
            x.node(LESS, 0, 1, 0);
            due("less of " + width, x.compile(), 7 * width - 3);
            x.node(SUB, 0, 1, 0);
            due("and sub", x.compile(), 7 * width - 3);
        }
    }

    static void promise06EqualGoesFromBit0On() {
        CircuitDesk x = deskWithInputs(3, 3);
        x.node(EQUAL, 0, 1, 0);
        due("three bits", x.compile(), 11);
        due("depth", x.tell(2, 4), 4);
        x.node(PART, 0, 0, 2);
        x.node(PART, 1, 0, 2);
        x.node(EQUAL, 3, 4, 0);
        due("the lowest two are in it", x.compile(), 11);
        x.node(PART, 0, 1, 2);
        x.node(PART, 1, 1, 2);
        x.node(EQUAL, 6, 7, 0);
        due("the foremost two are not", x.compile(), 12);
    }

    static void promise06AWireIsFalseAtFirst() {
        CircuitDesk x = deskWithInputs(1, 1);
        x.signal(WIRE, 1, 0);
        x.state(WHEN, 0, 0);
        x.state(SET, 2, 1);
        x.state(END, 0, 0);
        x.state(SET, 2, 1);
        due("joined with false", x.compile(), 1);
    }

    static void promise06ARegisterHasItsOwnBitAtFirst() {
        CircuitDesk x = deskWithInputs(1, 1);
        x.signal(REGISTER, 1, 0);
        x.state(WHEN, 0, 0);
        x.state(SET, 2, 1);
        x.state(END, 0, 0);
        due("pick of the new and its own", x.compile(), 3);
        x.state(SET, 2, 1);
        due("also where a later set counts", x.compile(), 3);
    }

    static void promise06TheSecondPartStartsFromTheSame() {
        CircuitDesk x = deskWithInputs(1, 1, 1);
        x.signal(WIRE, 1, 0);
        x.node(CHOOSE, 0, 1, 2);
        x.state(SET, 3, 2);
        x.state(WHEN, 0, 0);
        x.state(SET, 3, 1);
        x.state(ELSE, 0, 0);
        x.state(END, 0, 0);
        due("the gates of choose", x.compile(), 3);
        x.input(1, 1);
        due("0", x.value(3, false), 0);
        x.input(0, 1);
        due("1", x.value(3, false), 1);
    }

    static void promise06AnEmptyWhenMakesNoGates() {
        CircuitDesk x = deskWithInputs(1, 1);
        x.signal(WIRE, 1, 0);
        x.node(AND, 0, 1, 0);
        x.state(SET, 2, 1);
        due("without", x.compile(), 1);
        x.state(WHEN, 3, 0);
        x.state(ELSE, 0, 0);
        x.state(END, 0, 0);
        due("with", x.compile(), 1);
        x.state(WHEN, 3, 0);
        x.state(SET, 2, 1);
        x.state(END, 0, 0);
        due("both give the same", x.compile(), 1);
    }

    static void promise06OpsShareTheirGates() {
        due("equal", gatesOf(EQUAL, 0, 1, 0), 3);
        CircuitDesk x = deskWithInputs(1, 1);
        x.node(AND, 0, 1, 0);
        x.node(XOR, 0, 1, 0);
        due("xor has the and", x.compile(), 3);
        x.node(EQUAL, 1, 0, 0);
        due("equal has the xor", x.compile(), 3);
        x.node(OR, 0, 1, 0);
        due("or is in the xor", x.compile(), 3);
    }

    static void promise06GatesOfSums() {
        due("add", gatesOf(ADD, 0, 1, 0), 3);
        due("sub", gatesOf(SUB, 0, 1, 0), 4);
        due("less", gatesOf(LESS, 0, 1, 0), 4);
        CircuitDesk x = deskWithInputs(1, 1);
        x.node(ADD, 0, 1, 0);
        x.node(XOR, 0, 1, 0);
        due("add has the xor", x.compile(), 3);
        due("depth of add", x.tell(2, 4), 2);
        x.node(SUB, 0, 1, 0);
        x.node(LESS, 0, 1, 0);
        due("sub and less", x.compile(), 7);
        due("depth of sub", x.tell(4, 4), 2);
        due("depth of less", x.tell(5, 4), 3);
        CircuitDesk y = deskWithInputs(2, 2);
        y.node(ADD, 0, 1, 0);
        due("add of two bits", y.compile(), 10);
        CircuitDesk z = deskWithInputs(2, 2);
        z.node(LESS, 0, 1, 0);
        due("less of two bits makes its bits too", z.compile(), 11);
        CircuitDesk w = deskWithInputs(2, 1);
        w.node(EQUAL, 0, 1, 0);
        due("equal with a bit in front", w.compile(), 4);
    }

    static void promise06GatesOfStatements() {
        CircuitDesk x = deskWithInputs(1, 1, 1);
        x.signal(WIRE, 1, 0);
        x.state(WHEN, 0, 0);
        x.state(SET, 3, 1);
        x.state(END, 0, 0);
        x.state(SET, 3, 2);
        due("gates that do not count are made", x.compile(), 1);
        due("of the wire", x.tell(3, 4), 0);
        x.clear(0);
        x.state(SET, 3, 2);
        x.state(WHEN, 0, 0);
        x.state(SET, 3, 1);
        x.state(END, 0, 0);
        due("pick", x.compile(), 3);
        due("depth of pick", x.tell(3, 4), 2);
        x.state(WHEN, 1, 0);
        x.state(END, 0, 0);
        due("empty when", x.compile(), 3);
        x.node(CHOOSE, 0, 1, 2);
        due("choose is the same pick", x.compile(), 3);
        x.clear(0);
        x.state(SET, 3, 2);
        x.state(WHEN, 0, 0);
        x.state(ELSE, 0, 0);
        x.state(SET, 3, 1);
        x.state(END, 0, 0);
        due("other part", x.compile(), 6);
        CircuitDesk y = deskWithInputs(1);
        y.signal(REGISTER, 1, 0);
        y.node(NOT, 1, 0, 0);
        y.state(WHEN, 0, 0);
        y.state(SET, 1, 2);
        y.state(END, 0, 0);
        due("next from its own bit", y.compile(), 3);
        due("register itself", y.tell(1, 4), 0);
        due("depth of next", y.count(4), 2);
    }
}
