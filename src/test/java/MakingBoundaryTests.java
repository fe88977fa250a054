/** The boundary cases of making a CIRCUIT: promises 1 to 5 and 14, a test for each sentence. */
public final class MakingBoundaryTests extends DeskTest {
    public static void main(String[] args) {
        runTestsOf(MakingBoundaryTests.class, 1, 2, 3, 4, 5, 14);
    }

    private static CircuitDesk fullDesk() {
        CircuitDesk x = desk();
        fillWithInputs(x);
        return x;
    }

    static void promise01NoSignals() {
        CircuitDesk x = desk();
        due("signals", x.count(0), 0);
        for (int what = 0; what <= 4; what++) {
            due("tell " + what, x.tell(0, what), NONE);
        }
        due("not of 0", x.node(NOT, 0, 0, 0), REFUSED);
        due("set 0 0", x.state(SET, 0, 0), REFUSED);
        due("when 0", x.state(WHEN, 0, 0), REFUSED);
        due("first signal", desk().signal(INPUT, 1, 0), 0);
        due("first node", desk().node(CONSTANT, 0, 1, 0), 0);
    }

    static void promise01NoStatements() {
        CircuitDesk x = desk();
        due("statements", x.count(1), 0);
        due("whens around", x.count(7), 0);
        due("else", x.state(ELSE, 0, 0), NONE);
        due("end", x.state(END, 0, 0), NONE);
        due("clear 0", x.clear(0), 0);
        due("clear 1", desk().clear(1), 0);
    }

    static void promise01ADraft() {
        CircuitDesk x = desk();
        due("ready", x.count(2), 0);
        for (int what = 3; what <= 6; what++) {
            due("count " + what, x.count(what), NONE);
        }
        due("input", x.input(0, 0), NONE);
        due("clock", x.clock(1), NONE);
        due("reset", x.reset(), false);
        due("value", x.value(0, false), NONE);
        due("next", x.value(0, true), NONE);
        due("where", x.where(), NONE);
    }

    static void promise01WrongNumbersAreRefusedAtOnce() {
        CircuitDesk x = desk();
        due("signal", x.signal(NODE, 1, 0), REFUSED);
        due("node", x.node(12, 0, 0, 0), REFUSED);
        due("state", x.state(4, 0, 0), REFUSED);
        due("clear", x.clear(2), REFUSED);
        due("clock", x.clock(0), REFUSED);
        due("tell", x.tell(0, 5), REFUSED);
        due("count", x.count(8), REFUSED);
    }

    static void promise01ObjectsHaveNothingInCommon() {
        CircuitDesk x = deskWithEachKind();
        x.compile();
        String before = all(x);
        CircuitDesk y = desk();
        due("signals", y.count(0), 0);
        due("statements", y.count(1), 0);
        due("ready", y.count(2), 0);
        y.signal(REGISTER, 1, 1);
        y.compile();
        y.clock(3);
        due("the other one", all(x), before);
    }

    static void promise02KindIs0To2() {
        for (int kind : outside(INPUT, REGISTER)) {
            due("kind " + kind, desk().signal(kind, 1, 0), REFUSED);
        }
        for (int kind = INPUT; kind <= REGISTER; kind++) {
            CircuitDesk x = desk();
            due("kind " + kind, x.signal(kind, 1, 0), 0);
            due("told kind", x.tell(0, 0), kind);
        }
    }

    static void promise02WidthIs1To8() {
        for (int kind = INPUT; kind <= REGISTER; kind++) {
            for (int width : outside(1, MOST_WIDTH)) {
                due("kind " + kind + " width " + width, desk().signal(kind, width, 0), REFUSED);
            }
            for (int width = 1; width <= MOST_WIDTH; width++) {
                CircuitDesk x = desk();
                due("kind " + kind + " width " + width, x.signal(kind, width, 0), 0);
                due("told width", x.tell(0, 1), width);
            }
        }
    }

    static void promise02ResetOfARegisterIs0To255() {
        for (int width = 1; width <= MOST_WIDTH; width++) {
            for (int reset : outside(0, 255)) {
                due("width " + width + " reset " + reset, desk().signal(REGISTER, width, reset), REFUSED);
            }
            due("width " + width + " reset 0", desk().signal(REGISTER, width, 0), 0);
            due("width " + width + " reset 255", desk().signal(REGISTER, width, 255), 0);
        }
    }

    static void promise02LowestBitsOfResetCount() {
        int[] resets = {0, 1, 2, 85, 127, 128, 170, 254, 255};
        for (int width = 1; width <= MOST_WIDTH; width++) {
            for (int reset : resets) {
                CircuitDesk x = desk();
                x.signal(REGISTER, width, reset);
                x.compile();
                due("width " + width + " reset " + reset, x.value(0, false), reset & greatest(width));
            }
        }
    }

    static void promise02ResetOfOthersIsNotLookedAt() {
        for (int reset : outside(0, 255)) {
            CircuitDesk x = desk();
            due("input, reset " + reset, x.signal(INPUT, 8, reset), 0);
            due("wire, reset " + reset, x.signal(WIRE, 8, reset), 1);
            x.state(SET, 1, 0);
            x.compile();
            due("value of the input", x.value(0, false), 0);
            due("value of the wire", x.value(1, false), 0);
        }
    }

    static void promise02FullIfThereAre14() {
        CircuitDesk x = desk();
        for (int s = 0; s < MOST_SIGNALS; s++) {
            due("number", x.signal(s % 3, 1, 0), s);
        }
        for (int kind = INPUT; kind <= REGISTER; kind++) {
            due("kind " + kind, x.signal(kind, 1, 0), FULL);
        }
        due("signals", x.count(0), MOST_SIGNALS);
        due("the last one", x.tell(13, 0), 13 % 3);
        due("none behind it", x.tell(14, 0), NONE);
    }

    static void promise02NodesTakeOfThe14Too() {
        CircuitDesk x = desk();
        for (int s = 0; s < MOST_SIGNALS; s++) {
            due("number", x.node(CONSTANT, 1, 1, 0), s);
        }
        due("fifteenth", x.signal(INPUT, 1, 0), FULL);
    }

    static void promise02RefusedAlsoIfThereAre14() {
        CircuitDesk x = fullDesk();
        due("kind", x.signal(3, 1, 0), REFUSED);
        due("width", x.signal(INPUT, 9, 0), REFUSED);
        due("reset", x.signal(REGISTER, 1, 256), REFUSED);
    }

    static void promise02RoomAgainAfterClear() {
        CircuitDesk x = fullDesk();
        x.clear(0);
        due("signals are kept", x.signal(INPUT, 1, 0), FULL);
        x.clear(1);
        due("from 0 again", x.signal(INPUT, 1, 0), 0);
    }

    static void promise02BelowZeroChangesNothing() {
        CircuitDesk x = deskWithEachKind();
        x.compile();
        x.input(0, 6);
        x.clock(2);
        String before = all(x);
        x.signal(3, 1, 0);
        x.signal(INPUT, 0, 0);
        x.signal(REGISTER, 1, -1);
        due("refused", all(x), before);
        due("number is not used up", x.signal(INPUT, 1, 0), 4);
        fillWithInputs(x);
        x.compile();
        before = all(x);
        due("full", x.signal(REGISTER, 8, 255), FULL);
        due("full", all(x), before);
    }

    static void promise03OpIs0To11() {
        for (int op : outside(NOT, CONSTANT)) {
            due("op " + op, deskWithInputs(1).node(op, 0, 0, 0), REFUSED);
        }
        for (int op = NOT; op <= CONSTANT; op++) {
            CircuitDesk x = deskWithInputs(1);
            int b = op == CONSTANT ? 1 : 0;
            int c = op == PART ? 1 : 0;
            due("op " + op, x.node(op, 0, b, c), 1);
            due("told op", x.tell(1, 2), op);
        }
    }

    static void promise03AIsASignalThatIsThere() {
        CircuitDesk x = deskWithInputs(1, 1);
        for (int op = NOT; op <= CHOOSE; op++) {
            int c = op == PART ? 1 : 0;
            for (int a : outside(0, 1)) {
                due("op " + op + " a " + a, x.node(op, a, 0, c), REFUSED);
            }
        }
        due("none was made", x.count(0), 2);
    }

    static void promise03BIsASignalThatIsThere() {
        CircuitDesk x = deskWithInputs(1, 1);
        for (int op = AND; op <= CHOOSE; op++) {
            for (int b : outside(0, 1)) {
                due("op " + op + " b " + b, x.node(op, 0, b, 0), REFUSED);
            }
        }
        due("none was made", x.count(0), 2);
    }

    static void promise03COfChooseIsASignalThatIsThere() {
        CircuitDesk x = deskWithInputs(1, 1);
        for (int c : outside(0, 1)) {
            due("c " + c, x.node(CHOOSE, 0, 0, c), REFUSED);
        }
        due("c 1", x.node(CHOOSE, 0, 0, 1), 2);
    }

    static void promise03ItselfIsNotThereYet() {
        CircuitDesk x = deskWithInputs(1);
        due("not", x.node(NOT, 1, 0, 0), REFUSED);
        due("and", x.node(AND, 0, 1, 0), REFUSED);
        due("choose", x.node(CHOOSE, 0, 0, 1), REFUSED);
    }

    static void promise03ClearedSignalsAreNotThere() {
        CircuitDesk x = deskWithInputs(1, 1);
        x.clear(1);
        due("not", x.node(NOT, 0, 0, 0), REFUSED);
        x.signal(INPUT, 1, 0);
        due("and", x.node(AND, 0, 1, 0), REFUSED);
    }

    static void promise03BAndCAreNotLookedAtWhereTheOpHasNone() {
        for (int odd : outside(0, 1)) {
            due("not, b " + odd, deskWithInputs(1).node(NOT, 0, odd, 0), 1);
            due("not, c " + odd, deskWithInputs(1).node(NOT, 0, 0, odd), 1);
            for (int op = AND; op <= JOIN; op++) {
                due("op " + op + " c " + odd, deskWithInputs(1).node(op, 0, 0, odd), 1);
            }
            due("constant, c " + odd, desk().node(CONSTANT, 1, 1, odd), 0);
        }
    }

    static void promise03AOfChooseHasWidth1() {
        for (int width = 2; width <= MOST_WIDTH; width++) {
            due("width " + width, deskWithInputs(width, 1).node(CHOOSE, 0, 1, 1), REFUSED);
        }
        CircuitDesk x = deskWithInputs(1, 8);
        due("width 1", x.node(CHOOSE, 0, 1, 1), 2);
        due("b and c may be wide", x.tell(2, 1), 8);
        due("wider a than b and c", x.node(CHOOSE, 1, 0, 0), REFUSED);
    }

    static void promise03PartGoesNotBeyondA() {
        for (int width = 1; width <= MOST_WIDTH; width++) {
            CircuitDesk x = deskWithInputs(width);
            due("one more than all of " + width, x.node(PART, 0, 0, width + 1), REFUSED);
            due("one more than the last of " + width, x.node(PART, 0, width - 1, 2), REFUSED);
            due("behind the last of " + width, x.node(PART, 0, width, 1), REFUSED);
            due("all of " + width, x.node(PART, 0, 0, width), 1);
            due("its width", x.tell(1, 1), width);
            due("the last of " + width, x.node(PART, 0, width - 1, 1), 2);
            due("its width", x.tell(2, 1), 1);
        }
    }

    static void promise03PartHasBFrom0AndCFrom1() {
        CircuitDesk x = deskWithInputs(8);
        due("b -1", x.node(PART, 0, -1, 1), REFUSED);
        due("b -1, c 9", x.node(PART, 0, -1, 9), REFUSED);
        due("b least", x.node(PART, 0, Integer.MIN_VALUE, 1), REFUSED);
        due("c 0", x.node(PART, 0, 0, 0), REFUSED);
        due("c -1", x.node(PART, 0, 2, -1), REFUSED);
        due("c least", x.node(PART, 0, 0, Integer.MIN_VALUE), REFUSED);
        due("b 8, c 0", x.node(PART, 0, 8, 0), REFUSED);
        due("b 0, c 1", x.node(PART, 0, 0, 1), 1);
    }

    /** The sum of b and c wraps around to something small. */
    static void promise03PartOfFarNumbersIsRefused() {
        CircuitDesk x = deskWithInputs(8);
        due("b greatest", x.node(PART, 0, Integer.MAX_VALUE, 1), REFUSED);
        due("c greatest", x.node(PART, 0, 1, Integer.MAX_VALUE), REFUSED);
        due("both greatest", x.node(PART, 0, Integer.MAX_VALUE, Integer.MAX_VALUE), REFUSED);
        due("both least", x.node(PART, 0, Integer.MIN_VALUE, Integer.MIN_VALUE), REFUSED);
        due("sum 1", x.node(PART, 0, Integer.MIN_VALUE + 2, Integer.MAX_VALUE), REFUSED);
    }

    static void promise03ConstantFitsItsWidth() {
        for (int width = 1; width <= MOST_WIDTH; width++) {
            for (int value : outside(0, greatest(width))) {
                due("width " + width + " value " + value, desk().node(CONSTANT, value, width, 0), REFUSED);
            }
            CircuitDesk x = desk();
            due("width " + width + " least", x.node(CONSTANT, 0, width, 0), 0);
            due("width " + width + " greatest", x.node(CONSTANT, greatest(width), width, 0), 1);
            x.compile();
            due("least", x.value(0, false), 0);
            due("greatest", x.value(1, false), greatest(width));
        }
    }

    static void promise03ConstantHasWidth1To8() {
        for (int width : outside(1, MOST_WIDTH)) {
            due("0 of width " + width, desk().node(CONSTANT, 0, width, 0), REFUSED);
            due("1 of width " + width, desk().node(CONSTANT, 1, width, 0), REFUSED);
        }
        for (int width = 30; width <= 40; width++) {
            due("1 of width " + width, desk().node(CONSTANT, 1, width, 0), REFUSED);
        }
    }

    static void promise03AddIsAtMost8Wide() {
        due("8 and 8", deskWithInputs(8, 8).node(ADD, 0, 1, 0), REFUSED);
        due("8 and 1", deskWithInputs(8, 1).node(ADD, 0, 1, 0), REFUSED);
        due("1 and 8", deskWithInputs(1, 8).node(ADD, 0, 1, 0), REFUSED);
        CircuitDesk x = deskWithInputs(7, 1);
        due("7 and 7", x.node(ADD, 0, 0, 0), 2);
        due("7 and 1", x.node(ADD, 0, 1, 0), 3);
        due("1 and 7", x.node(ADD, 1, 0, 0), 4);
        for (int s = 2; s <= 4; s++) {
            due("width", x.tell(s, 1), 8);
        }
    }

    static void promise03JoinIsAtMost8Wide() {
        for (int width = 1; width < MOST_WIDTH; width++) {
            CircuitDesk x = deskWithInputs(width, 8 - width, 9 - width);
            due("9 wide", x.node(JOIN, 0, 2, 0), REFUSED);
            due("9 wide", x.node(JOIN, 2, 0, 0), REFUSED);
            due("8 wide", x.node(JOIN, 0, 1, 0), 3);
            due("width", x.tell(3, 1), 8);
        }
        due("16 wide", deskWithInputs(8).node(JOIN, 0, 0, 0), REFUSED);
    }

    static void promise03OtherOpsMayHave8WideArguments() {
        CircuitDesk x = deskWithInputs(8, 8);
        int[] ops = {NOT, AND, OR, XOR, SUB, EQUAL, LESS};
        for (int i = 0; i < ops.length; i++) {
            due("op " + ops[i], x.node(ops[i], 0, 1, 0), 2 + i);
            due("width", x.tell(2 + i, 1), i < 5 ? 8 : 1);
        }
    }

    static void promise03FullIfThereAre14() {
        CircuitDesk x = deskWithInputs(1, 1, 1, 1, 1, 1, 1, 1, 1, 1, 1, 1, 1);
        due("fourteenth", x.node(NOT, 12, 0, 0), 13);
        due("one wide", x.node(NOT, 13, 0, 0), FULL);
        due("constant", x.node(CONSTANT, 1, 1, 0), FULL);
        due("choose", x.node(CHOOSE, 0, 1, 13), FULL);
        due("signals", x.count(0), MOST_SIGNALS);
    }

    static void promise03RefusedAlsoIfThereAre14() {
        CircuitDesk x = deskWithInputs(8, 1, 1, 1, 1, 1, 1, 1, 1, 1, 1, 1, 1, 1);
        due("op", x.node(12, 0, 0, 0), REFUSED);
        due("a", x.node(NOT, 14, 0, 0), REFUSED);
        due("a of choose", x.node(CHOOSE, 0, 1, 1), REFUSED);
        due("part", x.node(PART, 0, 8, 1), REFUSED);
        due("constant", x.node(CONSTANT, 2, 1, 0), REFUSED);
        due("width", x.node(ADD, 0, 1, 0), REFUSED);
    }

    static void promise03BelowZeroChangesNothing() {
        CircuitDesk x = deskWithEachKind();
        x.compile();
        x.input(0, 6);
        x.clock(2);
        String before = all(x);
        x.node(12, 0, 0, 0);
        x.node(NOT, 4, 0, 0);
        x.node(CHOOSE, 0, 0, 0);
        x.node(PART, 0, 1, 3);
        x.node(CONSTANT, 8, 3, 0);
        due("refused", all(x), before);
        due("number is not used up", x.node(NOT, 0, 0, 0), 4);
        fillWithInputs(x);
        x.compile();
        before = all(x);
        due("full", x.node(AND, 0, 1, 0), FULL);
        due("full", all(x), before);
    }

    static void promise04SortIs0To3() {
        for (int sort : outside(SET, END)) {
            due("sort " + sort, deskWithEachKind().state(sort, 1, 0), REFUSED);
        }
    }

    static void promise04SetIsOfAWireOrRegister() {
        CircuitDesk x = deskWithEachKind();
        due("input", x.state(SET, 0, 0), REFUSED);
        due("node", x.state(SET, 3, 0), REFUSED);
        for (int s : outside(0, 3)) {
            due("s " + s, x.state(SET, s, 0), REFUSED);
        }
        due("none came", x.count(1), 2);
        due("wire", x.state(SET, 1, 0), 3);
        due("register", x.state(SET, 2, 0), 4);
    }

    static void promise04SetIsFromASignal() {
        CircuitDesk x = deskWithEachKind();
        for (int a : outside(0, 3)) {
            due("wire from " + a, x.state(SET, 1, a), REFUSED);
            due("register from " + a, x.state(SET, 2, a), REFUSED);
        }
        for (int a = 0; a <= 3; a++) {
            due("from " + a, x.state(SET, 1, a), 3 + a);
        }
    }

    static void promise04WhenIsOfASignalOfWidth1() {
        for (int width = 2; width <= MOST_WIDTH; width++) {
            due("width " + width, deskWithInputs(width).state(WHEN, 0, 0), REFUSED);
        }
        CircuitDesk x = deskWithInputs(1);
        x.signal(WIRE, 1, 0);
        x.signal(REGISTER, 1, 0);
        x.node(EQUAL, 0, 0, 0);
        for (int s : outside(0, 3)) {
            due("s " + s, x.state(WHEN, s, 0), REFUSED);
        }
        for (int s = 0; s <= 3; s++) {
            due("kind " + s, x.state(WHEN, s, 0), s + 1);
        }
    }

    static void promise04NumbersThatAreNotLookedAt() {
        for (int odd : outside(0, 3)) {
            CircuitDesk x = deskWithInputs(1);
            due("a of when, " + odd, x.state(WHEN, 0, odd), 1);
            due("both of else, " + odd, x.state(ELSE, odd, odd), 2);
            due("both of end, " + odd, x.state(END, odd, odd), 3);
        }
    }

    static void promise04NoneForElseWithoutWhen() {
        CircuitDesk x = deskWithEachKind();
        due("no when at all", x.state(ELSE, 0, 0), NONE);
        x.signal(INPUT, 1, 0);
        x.state(WHEN, 4, 0);
        x.state(END, 0, 0);
        due("the when has its end", x.state(ELSE, 0, 0), NONE);
        due("how many", x.count(1), 4);
    }

    static void promise04NoneForEndWithoutWhen() {
        CircuitDesk x = deskWithEachKind();
        due("no when at all", x.state(END, 0, 0), NONE);
        x.signal(INPUT, 1, 0);
        x.state(WHEN, 4, 0);
        x.state(ELSE, 0, 0);
        due("end", x.state(END, 0, 0), 5);
        due("a second end", x.state(END, 0, 0), NONE);
        due("how many", x.count(1), 5);
    }

    static void promise04NoneForElseASecondTime() {
        CircuitDesk x = deskWithInputs(1);
        x.state(WHEN, 0, 0);
        due("else", x.state(ELSE, 0, 0), 2);
        due("at once", x.state(ELSE, 0, 0), NONE);
        x.state(WHEN, 0, 0);
        due("else of the inner one", x.state(ELSE, 0, 0), 4);
        due("again", x.state(ELSE, 0, 0), NONE);
        x.state(END, 0, 0);
        due("behind the inner one", x.state(ELSE, 0, 0), NONE);
        due("how many", x.count(1), 5);
    }

    static void promise04ElseOfTheLatestWhenWithoutEnd() {
        CircuitDesk x = deskWithInputs(1);
        x.state(WHEN, 0, 0);
        x.state(WHEN, 0, 0);
        x.state(ELSE, 0, 0);
        x.state(END, 0, 0);
        due("else of the outer one", x.state(ELSE, 0, 0), 5);
        x.state(END, 0, 0);
        x.state(WHEN, 0, 0);
        due("else of the next one", x.state(ELSE, 0, 0), 8);
    }

    static void promise04FullIfThereAre20() {
        for (int sort = SET; sort <= END; sort++) {
            CircuitDesk x = deskWithInputs(1);
            x.signal(WIRE, 1, 0);
            x.state(WHEN, 0, 0);
            for (int i = 2; i < MOST_STATEMENTS; i++) {
                x.state(SET, 1, 0);
            }
            due("the twentieth, sort " + sort, x.state(sort, sort == WHEN ? 0 : 1, 0), MOST_STATEMENTS);
            due("set", x.state(SET, 1, 0), FULL);
            due("when", x.state(WHEN, 0, 0), FULL);
            due("how many", x.count(1), MOST_STATEMENTS);
        }
    }

    static void promise04FullForElseAndEndIfThereAre20() {
        CircuitDesk x = deskWithInputs(1);
        x.signal(WIRE, 1, 0);
        x.state(WHEN, 0, 0);
        fillWithSets(x, 1, 0);
        due("else", x.state(ELSE, 0, 0), FULL);
        due("else was not taken", x.state(ELSE, 0, 0), FULL);
        due("end", x.state(END, 0, 0), FULL);
        due("end was not taken", x.state(END, 0, 0), FULL);
        due("still within", x.count(7), 1);
    }

    static void promise04RefusedAndNoneAlsoIfThereAre20() {
        CircuitDesk x = deskWithInputs(1, 2);
        x.signal(WIRE, 1, 0);
        fillWithSets(x, 2, 0);
        due("sort", x.state(4, 2, 0), REFUSED);
        due("set an input", x.state(SET, 0, 0), REFUSED);
        due("set from none", x.state(SET, 2, 3), REFUSED);
        due("when of width 2", x.state(WHEN, 1, 0), REFUSED);
        due("else", x.state(ELSE, 0, 0), NONE);
        due("end", x.state(END, 0, 0), NONE);
    }

    static void promise04FullForAFifthWhenWithinFour() {
        CircuitDesk x = deskWithInputs(1);
        for (int i = 1; i <= 4; i++) {
            due("when", x.state(WHEN, 0, 0), i);
        }
        due("fifth", x.state(WHEN, 0, 0), FULL);
        x.state(ELSE, 0, 0);
        due("fifth in the second part", x.state(WHEN, 0, 0), FULL);
        due("of no signal", x.state(WHEN, 1, 0), REFUSED);
        due("how many", x.count(1), 5);
    }

    static void promise04AStatementMayLieInFour() {
        CircuitDesk x = deskWithInputs(1);
        x.signal(REGISTER, 1, 0);
        for (int i = 1; i <= 4; i++) {
            x.state(WHEN, 0, 0);
        }
        due("set", x.state(SET, 1, 0), 5);
        due("else", x.state(ELSE, 0, 0), 6);
        due("end", x.state(END, 0, 0), 7);
    }

    static void promise04AFifthWhenBesideTheFourth() {
        CircuitDesk x = deskWithInputs(1);
        for (int i = 1; i <= 4; i++) {
            x.state(WHEN, 0, 0);
        }
        x.state(END, 0, 0);
        due("within three", x.state(WHEN, 0, 0), 6);
        due("again within four", x.state(WHEN, 0, 0), FULL);
        for (int i = 7; i <= 10; i++) {
            due("end", x.state(END, 0, 0), i);
        }
        for (int i = 11; i <= 20; i++) {
            due("one behind the other", x.state(i % 2 == 1 ? WHEN : END, 0, 0), i);
        }
    }

    static void promise04BelowZeroChangesNothing() {
        CircuitDesk x = deskWithEachKind();
        x.signal(INPUT, 1, 0);
        x.compile();
        x.input(0, 6);
        x.clock(2);
        String before = all(x);
        x.state(4, 1, 0);
        x.state(SET, 0, 0);
        x.state(SET, 1, 5);
        x.state(WHEN, 0, 0);
        x.state(ELSE, 0, 0);
        x.state(END, 0, 0);
        due("refused and none", all(x), before);
        fillWithSets(x, 1, 0);
        x.compile();
        before = all(x);
        due("set", x.state(SET, 1, 3), FULL);
        due("when", x.state(WHEN, 4, 0), FULL);
        due("full", all(x), before);
    }

    /** What an ELSE that answered NONE, or a WHEN that answered FULL, left behind would show later. */
    static void promise04BelowZeroLeavesTheOpenWhensAsTheyAre() {
        CircuitDesk x = deskWithInputs(1, 2, 2);
        x.signal(WIRE, 2, 0);
        x.state(WHEN, 0, 0);
        x.state(SET, 3, 1);
        x.state(ELSE, 0, 0);
        x.state(ELSE, 0, 0);
        x.state(SET, 3, 2);
        due("the end", x.state(END, 0, 0), 5);
        x.compile();
        x.input(1, 1);
        x.input(2, 2);
        due("second part", x.value(3, false), 2);
        x.input(0, 1);
        due("first part", x.value(3, false), 1);
        x.clear(0);
        for (int i = 1; i <= 4; i++) {
            x.state(WHEN, 0, 0);
        }
        x.state(ELSE, 0, 0);
        due("fifth", x.state(WHEN, 0, 0), FULL);
        due("within four", x.count(7), 4);
        due("else of the fourth was there", x.state(ELSE, 0, 0), NONE);
    }

    static void promise05WhatIs0Or1() {
        for (int what : outside(0, 1)) {
            CircuitDesk x = deskWithEachKind();
            due("what " + what, x.clear(what), REFUSED);
            due("signals", x.count(0), 4);
            due("statements", x.count(1), 2);
        }
    }

    static void promise05HowManyThereWere() {
        for (int what = 0; what <= 1; what++) {
            CircuitDesk x = deskWithEachKind();
            due("two", x.clear(what), 2);
            due("none any more", x.clear(what), 0);
            x.clear(1);
            x.signal(REGISTER, 1, 0);
            fillWithSets(x, 0, 0);
            due("twenty", x.clear(what), MOST_STATEMENTS);
            due("statements", x.count(1), 0);
        }
    }

    static void promise05SignalsAreKeptWithWhat0() {
        CircuitDesk x = deskWithEachKind();
        x.clear(0);
        due("signals", x.count(0), 4);
        due("kind", x.tell(2, 0), REGISTER);
        due("op", x.tell(3, 2), NOT);
        x.state(SET, 1, 0);
        x.compile();
        due("reset value", x.value(2, false), 5);
        due("no set any more", x.value(2, true), 5);
    }

    static void promise05NeitherSignalsNorStatementsWithWhat1() {
        CircuitDesk x = deskWithEachKind();
        due("statements there were", x.clear(1), 2);
        due("signals", x.count(0), 0);
        due("statements", x.count(1), 0);
        due("kind", x.tell(0, 0), NONE);
        due("set", x.state(SET, 1, 0), REFUSED);
        due("from 0 again", x.signal(WIRE, 2, 0), 0);
        due("new kind", x.tell(0, 0), WIRE);
        due("new width", x.tell(0, 1), 2);
        due("no op", x.tell(0, 2), NONE);
    }

    static void promise05OpenWhensAreGone() {
        for (int what = 0; what <= 1; what++) {
            CircuitDesk x = deskWithInputs(1);
            for (int i = 1; i <= 4; i++) {
                x.state(WHEN, 0, 0);
                x.state(ELSE, 0, 0);
            }
            due("how many", x.clear(what), 8);
            due("whens around", x.count(7), 0);
            due("end", x.state(END, 0, 0), NONE);
            due("else", x.state(ELSE, 0, 0), NONE);
            due("nothing is open", x.compile(), 0);
        }
    }

    static void promise05NewWhensHaveTheirElse() {
        CircuitDesk x = deskWithInputs(1);
        x.state(WHEN, 0, 0);
        x.state(ELSE, 0, 0);
        x.clear(0);
        x.state(WHEN, 0, 0);
        due("else", x.state(ELSE, 0, 0), 2);
    }

    static void promise05RefusedChangesNothing() {
        CircuitDesk x = deskWithEachKind();
        x.compile();
        x.input(0, 6);
        x.clock(2);
        String before = all(x);
        x.clear(-1);
        x.clear(2);
        due("refused", all(x), before);
    }

    static void promise14ClearMakesADraft() {
        for (int what = 0; what <= 1; what++) {
            CircuitDesk x = deskWithEachKind();
            x.compile();
            x.clear(what);
            due("ready, what " + what, x.count(2), 0);
            due("gates", x.count(3), NONE);
            due("reset", x.reset(), false);
        }
    }

    static void promise14ClearMakesADraftWithoutStatements() {
        for (int what = 0; what <= 1; what++) {
            CircuitDesk x = deskWithInputs(1);
            x.compile();
            due("what " + what, x.clear(what), 0);
            due("ready", x.count(2), 0);
            due("value", x.value(0, false), NONE);
        }
    }

    static void promise14ClearMakesADraftWhereThereIsNothing() {
        for (int what = 0; what <= 1; what++) {
            CircuitDesk x = desk();
            x.compile();
            due("ready before", x.count(2), 1);
            due("what " + what, x.clear(what), 0);
            due("ready", x.count(2), 0);
            due("clock", x.clock(1), NONE);
        }
    }

    static void promise14OtherCallsThatMakeADraft() {
        CircuitDesk x = deskWithInputs(1);
        x.compile();
        x.signal(REGISTER, 1, 0);
        due("signal", x.count(2), 0);
        x.compile();
        x.node(NOT, 0, 0, 0);
        due("node", x.count(2), 0);
        x.compile();
        x.state(SET, 1, 0);
        due("set", x.count(2), 0);
        x.compile();
        x.state(WHEN, 0, 0);
        due("when", x.count(2), 0);
        x.state(ELSE, 0, 0);
        due("else", x.count(2), 0);
        x.state(END, 0, 0);
        due("end", x.count(2), 0);
    }

    static void promise14CallsThatMakeNoDraft() {
        CircuitDesk x = deskWithEachKind();
        x.compile();
        x.compile();
        due("compile", x.count(2), 1);
        x.input(0, 3);
        due("input", x.count(2), 1);
        x.clock(30);
        due("clock", x.count(2), 1);
        x.reset();
        due("reset", x.count(2), 1);
        x.where();
        all(x);
        due("looking", x.count(2), 1);
    }
}
