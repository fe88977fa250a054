/** The boundary cases of the checks and of the NET: promises 6 and 7, a test for each sentence. */
public final class CompilingBoundaryTests extends DeskTest {
    public static void main(String[] args) {
        runTestsOf(CompilingBoundaryTests.class, 6, 7);
    }

    /** INPUTS 0 (the condition), 1 and 2, then WIRE 3, all of WIDTH 1. */
    private static CircuitDesk deskWithWire() {
        CircuitDesk x = deskWithInputs(1, 1, 1);
        x.signal(WIRE, 1, 0);
        return x;
    }

    /** States a row of {sort, s, a}. */
    private static void stateAll(CircuitDesk x, int[]... row) {
        for (int[] statement : row) {
            due("statement", x.state(statement[0], statement[1], statement[2]) > 0, true);
        }
    }

    private static int[] set(int s, int a) {
        return new int[] {SET, s, a};
    }

    private static int[] when(int s) {
        return new int[] {WHEN, s, 0};
    }

    private static final int[] OTHERWISE = {ELSE, 0, 0};
    private static final int[] CLOSE = {END, 0, 0};

    /** What compile answers and where tells, for the row alone. */
    private static void dueFor(CircuitDesk x, int answer, int where, int[]... row) {
        x.clear(0);
        stateAll(x, row);
        due("compile", x.compile(), answer);
        due("where", x.where(), where);
        due("ready", x.count(2), answer < 0 ? 0 : 1);
    }

    static void promise06WithoutAnySignal() {
        CircuitDesk x = desk();
        due("gates", x.compile(), 0);
        due("ready", x.count(2), 1);
        due("told gates", x.count(3), 0);
        due("where", x.where(), NONE);
    }

    static void promise06WithoutAnyGate() {
        CircuitDesk x = deskWithInputs(1, 8);
        x.signal(REGISTER, 8, 3);
        x.node(NOT, 1, 0, 0);
        x.node(JOIN, 0, 0, 0);
        x.node(CONSTANT, 3, 4, 0);
        due("gates", x.compile(), 0);
        due("ready", x.count(2), 1);
    }

    static void promise06OpenIfAWhenHasNoEnd() {
        for (int deep = 1; deep <= 4; deep++) {
            CircuitDesk x = deskWithInputs(1);
            for (int i = 0; i < deep; i++) {
                x.state(WHEN, 0, 0);
            }
            for (int i = 0; i < deep; i++) {
                due("open " + (deep - i), x.compile(), OPEN);
                due("whens around", x.count(7), deep - i);
                x.state(END, 0, 0);
            }
            due("none is open", x.compile(), 0);
        }
    }

    static void promise06OpenBehindElse() {
        CircuitDesk x = deskWithInputs(1);
        dueFor(x, OPEN, NONE, when(0), OTHERWISE);
        dueFor(x, OPEN, NONE, when(0), CLOSE, when(0));
        dueFor(x, 0, NONE, when(0), OTHERWISE, CLOSE);
    }

    static void promise06OpenIfThereIsNoRoomForEnd() {
        CircuitDesk x = deskWithWire();
        x.state(WHEN, 0, 0);
        fillWithSets(x, 3, 0);
        due("no room", x.state(END, 0, 0), FULL);
        due("open", x.compile(), OPEN);
    }

    static void promise06OpenBeforeUnset() {
        CircuitDesk x = deskWithWire();
        dueFor(x, OPEN, NONE, when(0));
        dueFor(x, UNSET, 3, when(0), CLOSE);
    }

    static void promise06OpenBeforeLoop() {
        CircuitDesk x = deskWithWire();
        dueFor(x, OPEN, NONE, set(3, 3), when(0));
        dueFor(x, LOOP, 3, set(3, 3), when(0), CLOSE);
    }

    static void promise06UnsetBeforeLoop() {
        CircuitDesk x = deskWithWire();
        x.signal(WIRE, 1, 0);
        dueFor(x, UNSET, 4, set(3, 3));
        dueFor(x, LOOP, 3, set(3, 3), set(4, 0));
        dueFor(x, UNSET, 3, set(4, 4));
        dueFor(x, LOOP, 4, set(4, 4), set(3, 0));
    }

    /** It is UNSET and goes round in itself as well. */
    static void promise06UnsetBeforeLoopOfTheSameWire() {
        dueFor(deskWithWire(), UNSET, 3, when(3), set(3, 3), CLOSE);
    }

    static void promise06UnsetWithoutStatements() {
        dueFor(deskWithWire(), UNSET, 3);
    }

    static void promise06UnsetIfOnlyInTheFirstPart() {
        dueFor(deskWithWire(), UNSET, 3, when(0), set(3, 1), CLOSE);
        dueFor(deskWithWire(), UNSET, 3, when(0), set(3, 1), OTHERWISE, CLOSE);
    }

    static void promise06UnsetIfOnlyInTheSecondPart() {
        dueFor(deskWithWire(), UNSET, 3, when(0), OTHERWISE, set(3, 1), CLOSE);
    }

    static void promise06SureIfInBothParts() {
        dueFor(deskWithWire(), 3, NONE, when(0), set(3, 1), OTHERWISE, set(3, 2), CLOSE);
    }

    static void promise06SureBeforeOrBehindAWhen() {
        dueFor(deskWithWire(), 3, NONE, set(3, 2), when(0), set(3, 1), CLOSE);
        dueFor(deskWithWire(), 1, NONE, when(0), set(3, 1), CLOSE, set(3, 2));
    }

    static void promise06UnsetIfInOnePartOfEachOfTwoWhens() {
        dueFor(deskWithWire(), UNSET, 3, when(0), set(3, 1), CLOSE, when(0), OTHERWISE, set(3, 2), CLOSE);
    }

    /** SURE is a matter of the STATEMENTS, not of what a condition is. */
    static void promise06UnsetIfTheConditionIsAlwaysTrue() {
        CircuitDesk x = deskWithWire();
        x.node(CONSTANT, 1, 1, 0);
        dueFor(x, UNSET, 3, when(4), set(3, 1), CLOSE);
    }

    static void promise06SureInFourWhens() {
        dueFor(deskWithWire(), UNSET, 3,
                when(0), when(0), when(0), when(0), set(3, 1), OTHERWISE, set(3, 2), CLOSE,
                OTHERWISE, set(3, 1), CLOSE, OTHERWISE, set(3, 1), CLOSE, OTHERWISE, CLOSE);
        dueFor(deskWithWire(), UNSET, 3,
                when(0), when(0), when(0), when(0), set(3, 1), OTHERWISE, CLOSE,
                OTHERWISE, set(3, 1), CLOSE, OTHERWISE, set(3, 1), CLOSE, OTHERWISE, set(3, 1), CLOSE);
        dueFor(deskWithWire(), 0, NONE,
                when(0), when(0), when(0), when(0), set(3, 1), OTHERWISE, set(3, 1), CLOSE,
                OTHERWISE, set(3, 1), CLOSE, OTHERWISE, set(3, 1), CLOSE, OTHERWISE, set(3, 1), CLOSE);
    }

    /** What was SURE in a WHEN does not count in the next one of the same depth. */
    static void promise06SureIsForgottenWithEachWhen() {
        dueFor(deskWithWire(), UNSET, 3,
                when(0), when(1), set(3, 1), OTHERWISE, set(3, 2), CLOSE, OTHERWISE, when(1), CLOSE, CLOSE);
        dueFor(deskWithWire(), UNSET, 3,
                when(0), set(3, 1), OTHERWISE, CLOSE, when(0), OTHERWISE, set(3, 1), CLOSE);
        dueFor(deskWithWire(), UNSET, 3,
                when(0), set(3, 1), OTHERWISE, CLOSE, when(0), set(3, 1), CLOSE);
    }

    /** WIRE 0 and INPUT 1, its condition. */
    private static CircuitDesk deskWithWire0() {
        CircuitDesk x = desk();
        x.signal(WIRE, 1, 0);
        x.signal(INPUT, 1, 0);
        return x;
    }

    static void promise06Wire0IsUnsetLikeOthers() {
        dueFor(deskWithWire0(), UNSET, 0);
        dueFor(deskWithWire0(), UNSET, 0, when(1), CLOSE);
        dueFor(deskWithWire0(), UNSET, 0, when(1), set(0, 1), CLOSE);
        dueFor(deskWithWire0(), UNSET, 0, when(1), set(0, 1), OTHERWISE, CLOSE);
        dueFor(deskWithWire0(), UNSET, 0, when(1), OTHERWISE, set(0, 1), CLOSE);
        dueFor(deskWithWire0(), 0, NONE, when(1), set(0, 1), OTHERWISE, set(0, 1), CLOSE);
    }

    static void promise06Wire0IsInALoopLikeOthers() {
        CircuitDesk x = deskWithWire0();
        dueFor(x, LOOP, 0, set(0, 0));
        dueFor(x, 0, NONE, set(0, 1));
        dueFor(x, LOOP, 0, set(0, 1), when(0), set(0, 1), CLOSE);
        dueFor(x, 0, NONE, when(0), CLOSE, set(0, 1));
    }

    static void promise06UnsetIsTheLeastWire() {
        CircuitDesk x = deskWithInputs(1);
        for (int s = 1; s < MOST_SIGNALS; s++) {
            x.signal(WIRE, 1, 0);
        }
        for (int s = 1; s < MOST_SIGNALS; s++) {
            due("compile", x.compile(), UNSET);
            due("where", x.where(), s);
            x.state(SET, s, 0);
        }
        due("all are set", x.compile(), 0);
        due("where", x.where(), NONE);
        x.clear(0);
        for (int s = MOST_SIGNALS - 1; s > 1; s--) {
            x.state(SET, s, 0);
            due("compile", x.compile(), UNSET);
            due("where", x.where(), 1);
        }
    }

    static void promise06OnlyWiresAreUnset() {
        CircuitDesk x = deskWithInputs(1);
        x.signal(REGISTER, 1, 0);
        x.node(NOT, 0, 0, 0);
        dueFor(x, 0, NONE);
        dueFor(x, 2, NONE, when(0), set(1, 0), CLOSE);
    }

    static void promise06LoopOfAWireOnItself() {
        dueFor(deskWithWire(), LOOP, 3, set(3, 3));
        dueFor(deskWithWire(), LOOP, 3, set(3, 3), set(3, 0));
        dueFor(deskWithWire(), LOOP, 3, set(3, 0), when(0), set(3, 3), CLOSE);
    }

    static void promise06LoopThroughEachArgument() {
        for (int op = NOT; op <= CHOOSE; op++) {
            for (int place = 0; place < 3; place++) {
                boolean looked = place == 0 || place == 1 && op != NOT && op != PART || op == CHOOSE;
                CircuitDesk x = deskWithWire();
                int a = place == 0 ? 3 : 0;
                int b = place == 1 && op != PART ? 3 : 0;
                int c = place == 2 && op != PART ? 3 : op == PART ? 1 : 0;
                x.node(op, a, b, c);
                x.state(SET, 3, 4);
                due("op " + op + " place " + place, x.compile() == LOOP, looked);
                due("where", x.where(), looked ? 3 : NONE);
            }
        }
    }

    /** b and c of PART and both of CONSTANT are numbers, also where such a SIGNAL would loop. */
    static void promise06NoLoopThroughNumbers() {
        CircuitDesk x = deskWithInputs(8);
        x.signal(WIRE, 1, 0);
        x.node(PART, 0, 1, 1);
        x.node(CONSTANT, 1, 1, 1);
        dueFor(x, 0, NONE, set(1, 3), set(1, 2));
    }

    static void promise06LoopThroughAll14() {
        CircuitDesk x = desk();
        for (int s = 0; s < 7; s++) {
            x.signal(WIRE, 1, 0);
        }
        for (int s = 0; s < 7; s++) {
            x.node(NOT, s, 0, 0);
        }
        for (int s = 0; s < 7; s++) {
            x.state(SET, s, s == 0 ? 13 : 6 + s);
        }
        due("compile", x.compile(), LOOP);
        due("where", x.where(), 0);
        x.clear(0);
        x.state(SET, 0, 0);
        for (int s = 1; s < 7; s++) {
            x.state(SET, s, 6 + s);
        }
        due("only the first one", x.compile(), LOOP);
        due("where", x.where(), 0);
    }

    static void promise06LoopThroughTheConditionOfItsWhen() {
        dueFor(deskWithWire(), LOOP, 3, set(3, 0), when(3), set(3, 1), CLOSE);
    }

    static void promise06LoopThroughTheConditionInTheSecondPart() {
        dueFor(deskWithWire(), LOOP, 3, set(3, 0), when(3), OTHERWISE, set(3, 1), CLOSE);
    }

    static void promise06LoopThroughTheConditionsOfAllWhensAround() {
        for (int at = 0; at < 4; at++) {
            CircuitDesk x = deskWithWire();
            x.state(SET, 3, 0);
            for (int i = 0; i < 4; i++) {
                x.state(WHEN, i == at ? 3 : 0, 0);
            }
            x.state(SET, 3, 1);
            for (int i = 0; i < 4; i++) {
                x.state(END, 0, 0);
            }
            due("when " + at, x.compile(), LOOP);
            due("where", x.where(), 3);
        }
    }

    static void promise06NoLoopThroughWhensInWhichItIsNotSet() {
        CircuitDesk x = deskWithWire();
        x.signal(REGISTER, 1, 0);
        dueFor(x, 0, NONE, set(3, 0), when(3), CLOSE);
        dueFor(x, 0, NONE, when(3), CLOSE, set(3, 0));
        dueFor(x, 0, NONE, when(0), when(3), CLOSE, set(3, 1), OTHERWISE, set(3, 1), CLOSE);
        dueFor(x, 3, NONE, set(3, 0), when(3), set(4, 1), CLOSE);
    }

    /** The SIGNAL as a whole counts, even where none of its BITS would go round. */
    static void promise06LoopOfSignalsNotOfBits() {
        CircuitDesk x = deskWithInputs(1);
        x.signal(WIRE, 2, 0);
        x.node(PART, 1, 0, 1);
        x.node(JOIN, 2, 0, 0);
        dueFor(x, LOOP, 1, set(1, 3));
    }

    static void promise06NoLoopThroughARegisterOrInput() {
        CircuitDesk x = deskWithInputs(1);
        x.signal(REGISTER, 1, 0);
        x.signal(WIRE, 1, 0);
        x.node(NOT, 2, 0, 0);
        dueFor(x, 0, NONE, set(1, 1), set(2, 0));
        dueFor(x, 0, NONE, set(1, 3), set(2, 1));
        dueFor(x, 0, NONE, set(2, 1), when(1), set(1, 3), CLOSE);
    }

    static void promise06LoopIsTheLeastThatRestsOnItself() {
        CircuitDesk x = desk();
        for (int s = 0; s < 6; s++) {
            x.signal(WIRE, 1, 0);
        }
        x.signal(INPUT, 1, 0);
        dueFor(x, LOOP, 2, set(0, 1), set(1, 2), set(2, 3), set(3, 2), set(4, 4), set(5, 6));
        dueFor(x, LOOP, 4, set(0, 1), set(1, 4), set(2, 6), set(3, 6), set(4, 5), set(5, 4));
        dueFor(x, LOOP, 5, set(0, 5), set(1, 5), set(2, 5), set(3, 5), set(4, 5), set(5, 5));
    }

    static void promise06LoopThroughNodesAndWires() {
        CircuitDesk x = deskWithInputs(1);
        x.signal(WIRE, 1, 0);
        x.node(NOT, 1, 0, 0);
        x.signal(WIRE, 1, 0);
        dueFor(x, LOOP, 1, set(1, 3), set(3, 2));
        dueFor(x, LOOP, 1, set(1, 2), set(3, 2));
        dueFor(x, 0, NONE, set(1, 0), set(3, 2));
    }

    static void promise06ItStaysADraft() {
        int[] answers = {OPEN, UNSET, LOOP};
        int[][][] rows = {{set(1, 0), when(4)}, {set(2, 0)}, {set(1, 1)}};
        for (int i = 0; i < rows.length; i++) {
            CircuitDesk x = deskWithEachKind();
            x.signal(INPUT, 1, 0);
            due("all is well", x.compile(), 0);
            x.clear(0);
            stateAll(x, rows[i]);
            due("compile", x.compile(), answers[i]);
            due("ready", x.count(2), 0);
            due("input", x.input(0, 1), NONE);
            due("clock", x.clock(1), NONE);
            due("reset", x.reset(), false);
            due("value", x.value(0, false), NONE);
            for (int what = 3; what <= 6; what++) {
                due("count " + what, x.count(what), NONE);
            }
        }
    }

    static void promise06BelowZeroChangesNothing() {
        CircuitDesk x = deskWithWire();
        x.state(WHEN, 0, 0);
        x.state(SET, 3, 3);
        x.state(ELSE, 0, 0);
        String before = all(x);
        due("open", x.compile(), OPEN);
        due("all", all(x), before);
        due("else was there", x.state(ELSE, 0, 0), NONE);
        due("the end", x.state(END, 0, 0), 4);
        due("unset", x.compile(), UNSET);
        due("next one", x.state(SET, 3, 0), 5);
        due("loop", x.compile(), LOOP);
        due("signals", x.count(0), 4);
        due("statements", x.count(1), 5);
    }

    static void promise06RegistersAndInputsAtFirst() {
        CircuitDesk x = deskWithEachKind();
        x.compile();
        x.input(0, 6);
        x.clock(3);
        due("gates", x.compile(), 0);
        due("input", x.value(0, false), 0);
        due("wire", x.value(1, false), 0);
        due("register", x.value(2, false), 5);
        due("next", x.value(2, true), 7);
        due("clocks", x.count(6), 0);
        x.input(0, 6);
        x.clock(3);
        x.signal(INPUT, 3, 0);
        x.compile();
        due("input behind a change", x.value(0, false), 0);
        due("register behind a change", x.value(2, false), 5);
        due("new input", x.value(4, false), 0);
    }

    /** An INPUT in the place of a REGISTER of another CIRCUIT, and the other way round. */
    static void promise06NothingIsLeftOfTheFormerCircuit() {
        CircuitDesk x = deskWithInputs(8);
        x.signal(REGISTER, 8, 255);
        x.node(AND, 0, 1, 0);
        due("gates", x.compile(), 8);
        x.input(0, 255);
        x.clear(1);
        x.signal(REGISTER, 8, 0);
        x.signal(INPUT, 8, 0);
        x.node(OR, 0, 1, 0);
        due("gates", x.compile(), 8);
        due("register", x.value(0, false), 0);
        due("input", x.value(1, false), 0);
        due("next without a set", x.value(0, true), 0);
        due("node", x.value(2, false), 0);
        due("gates at 1", x.count(5), 8);
        x.clear(1);
        due("no gates", x.compile(), 0);
        due("no depth", x.count(4), 0);
        due("no gates at 1", x.count(5), 0);
    }

    static void promise06NothingIsLeftOfAWiderSignal() {
        CircuitDesk x = deskWithInputs(8);
        x.compile();
        x.clear(1);
        x.signal(INPUT, 4, 0);
        x.signal(INPUT, 8, 0);
        x.node(AND, 0, 1, 0);
        due("gates", x.compile(), 4);
        due("false in front", x.tell(2, 3), 4);
    }

    /** WIRE 2 and what rests on it come before WIRE 4, on which they rest. */
    static void promise06NoGatesOfAFormerSetting() {
        CircuitDesk x = deskWithInputs(1, 1);
        x.signal(WIRE, 1, 0);
        x.node(AND, 2, 0, 0);
        x.signal(WIRE, 1, 0);
        x.signal(INPUT, 1, 0);
        dueFor(x, 1, NONE, set(2, 4), set(4, 5));
        dueFor(x, 1, NONE, set(2, 4), set(4, 1));
        dueFor(x, 0, NONE, set(2, 4), set(4, 0));
    }

    /** SIGNAL 13 is the last one that there is room for, and has the greatest WIDTH. */
    static void promise06TheLastBitOfTheLastSignal() {
        for (int kind = INPUT; kind <= NODE; kind++) {
            CircuitDesk x = deskWithInputs(8, 8, 1, 1, 1, 1, 1, 1, 1, 1, 1);
            x.signal(WIRE, 8, 0);
            x.node(AND, 11, 0, 0);
            int last = kind == NODE ? x.node(XOR, 0, 1, 0) : x.signal(kind, 8, 255);
            due("the last one", last, 13);
            x.state(SET, 11, 13);
            if (kind != INPUT && kind != NODE) {
                x.state(SET, 13, 1);
            }
            due("gates of kind " + kind, x.compile(), kind == NODE ? 32 : 8);
            x.input(0, 128);
            x.input(1, kind == NODE ? 0 : 128);
            x.input(13, 128);
            x.clock(1);
            due("the last one of kind " + kind, x.value(13, false), 128);
            due("what is set to it", x.value(11, false), 128);
            due("joined with it", x.value(12, false), 128);
            due("gates at 1", x.count(5) > 0, true);
        }
        CircuitDesk y = deskWithInputs(1, 1, 1, 1, 1, 1, 1, 1, 1, 1, 1, 1, 1, 8);
        y.compile();
        y.input(13, 255);
        due("no gates at 1", y.count(5), 0);
    }

    static void promise06TheSameGatesEachTime() {
        CircuitDesk x = deskWithInputs(4, 4);
        x.node(ADD, 0, 1, 0);
        int gates = x.compile();
        due("gates", gates, 24);
        due("again", x.compile(), gates);
        x.clear(0);
        due("behind clear", x.compile(), gates);
        due("told", x.count(3), gates);
    }

    static void promise07BeforeTheFirstCompile() {
        CircuitDesk x = deskWithWire();
        due("where", x.where(), NONE);
        x.state(SET, 3, 3);
        due("where", x.where(), NONE);
    }

    static void promise07TheWireThatWasUnset() {
        CircuitDesk x = deskWithWire();
        x.compile();
        due("where", x.where(), 3);
        due("again", x.where(), 3);
        CircuitDesk y = desk();
        y.signal(WIRE, 1, 0);
        y.compile();
        due("0", y.where(), 0);
    }

    static void promise07TheSignalThatWasInALoop() {
        CircuitDesk x = deskWithWire();
        dueFor(x, LOOP, 3, set(3, 3));
        due("again", x.where(), 3);
    }

    static void promise07NoneAfterOpen() {
        CircuitDesk x = deskWithWire();
        due("unset", x.compile(), UNSET);
        x.state(WHEN, 0, 0);
        due("open", x.compile(), OPEN);
        due("behind unset", x.where(), NONE);
        dueFor(x, LOOP, 3, set(3, 3));
        x.state(WHEN, 0, 0);
        due("open", x.compile(), OPEN);
        due("behind loop", x.where(), NONE);
    }

    static void promise07NoneIfAllWasWell() {
        CircuitDesk x = deskWithWire();
        due("unset", x.compile(), UNSET);
        x.state(SET, 3, 0);
        due("well", x.compile(), 0);
        due("behind unset", x.where(), NONE);
        dueFor(x, LOOP, 3, set(3, 3));
        dueFor(x, 0, NONE, set(3, 0));
    }

    static void promise07OfTheLatestCompileOnly() {
        CircuitDesk x = deskWithWire();
        x.signal(WIRE, 1, 0);
        dueFor(x, UNSET, 3, set(4, 4));
        dueFor(x, LOOP, 4, set(4, 4), set(3, 0));
        dueFor(x, UNSET, 4, set(3, 3));
    }

    /** It tells of the latest compile, whatever has become of the SIGNALS since. */
    static void promise07OtherCallsDoNotChangeIt() {
        CircuitDesk x = deskWithWire();
        x.compile();
        x.signal(INPUT, 1, 0);
        due("signal", x.where(), 3);
        x.node(NOT, 0, 0, 0);
        due("node", x.where(), 3);
        x.state(SET, 3, 0);
        due("state", x.where(), 3);
        x.input(0, 1);
        x.clock(1);
        x.reset();
        all(x);
        due("looking", x.where(), 3);
        x.clear(0);
        due("clear 0", x.where(), 3);
        x.clear(1);
        due("clear 1", x.where(), 3);
        x.compile();
        due("compile", x.where(), NONE);
        x.signal(WIRE, 1, 0);
        due("a wire that is not set yet", x.where(), NONE);
    }
}
