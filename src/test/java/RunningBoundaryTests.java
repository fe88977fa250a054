/** The boundary cases of a CIRCUIT that runs: promises 8 to 13, a test for each sentence. */
public final class RunningBoundaryTests extends DeskTest {
    public static void main(String[] args) {
        runTestsOf(RunningBoundaryTests.class, 8, 9, 10, 11, 12, 13);
    }

    private static CircuitDesk readyDesk() {
        CircuitDesk x = deskWithEachKind();
        due("compile", x.compile(), 0);
        return x;
    }

    /** REGISTER 0 of the WIDTH counts up by 1 each time, since the greatest value is 1 below 0. */
    private static CircuitDesk counter(int width) {
        CircuitDesk x = desk();
        x.signal(REGISTER, width, 0);
        x.node(CONSTANT, greatest(width), width, 0);
        x.node(SUB, 0, 1, 0);
        x.state(SET, 0, 2);
        x.compile();
        return x;
    }

    static void promise08LowestBitsOfTheValueCount() {
        int[] values = {0, 1, 127, 128, 170, 255, 256, 257, 511, 0x12345678, Integer.MAX_VALUE};
        for (int width = 1; width <= MOST_WIDTH; width++) {
            CircuitDesk x = deskWithInputs(width);
            x.compile();
            for (int v : values) {
                due("width " + width + " value " + v, x.input(0, v), v % (1 << width));
                due("seen", x.value(0, false), v % (1 << width));
            }
        }
    }

    static void promise08LowestBitsOfAValueBelow0() {
        for (int width = 1; width <= MOST_WIDTH; width++) {
            CircuitDesk x = deskWithInputs(width);
            x.compile();
            due("-1", x.input(0, -1), greatest(width));
            due("seen", x.value(0, false), greatest(width));
            due("-2", x.input(0, -2), greatest(width) - 1);
            due("-256", x.input(0, -256), 0);
            due("-255", x.input(0, -255), 1);
            due("least", x.input(0, Integer.MIN_VALUE), 0);
            due("seen", x.value(0, false), 0);
        }
    }

    static void promise08FromNowOn() {
        CircuitDesk x = deskWithInputs(4, 4);
        x.compile();
        due("0 at first", x.value(0, false), 0);
        x.input(0, 9);
        x.input(1, 6);
        due("not changed by another", x.value(0, false), 9);
        x.clock(30);
        due("not changed by clock", x.value(0, false), 9);
        due("given anew", x.input(0, 0), 0);
        due("seen", x.value(0, false), 0);
        due("the other one", x.value(1, false), 6);
    }

    static void promise08NoneIfNotReady() {
        CircuitDesk x = deskWithEachKind();
        due("before compile", x.input(0, 1), NONE);
        x.compile();
        due("at first", x.value(0, false), 0);
        due("ready", x.input(0, 1), 1);
        x.signal(INPUT, 1, 0);
        due("draft again", x.input(0, 1), NONE);
        due("the new one", x.input(4, 1), NONE);
    }

    static void promise08NoneIfItIsNoInput() {
        CircuitDesk x = readyDesk();
        due("wire", x.input(1, 1), NONE);
        due("register", x.input(2, 1), NONE);
        due("node", x.input(3, 1), NONE);
        for (int s : outside(0, 3)) {
            due("signal " + s, x.input(s, 1), NONE);
        }
        for (int s = 4; s <= MOST_SIGNALS + 1; s++) {
            due("signal " + s, x.input(s, 1), NONE);
        }
    }

    static void promise08NoneChangesNothing() {
        CircuitDesk x = readyDesk();
        x.input(0, 6);
        x.clock(2);
        String before = all(x);
        for (int s = -1; s <= 5; s++) {
            if (s != 0) {
                x.input(s, 7);
            }
        }
        due("all", all(x), before);
    }

    static void promise09NIs1To30() {
        CircuitDesk x = counter(8);
        for (int n : outside(1, 30)) {
            due("n " + n, x.clock(n), REFUSED);
        }
        due("not done", x.value(0, false), 0);
        due("not counted", x.count(6), 0);
        int sum = 0;
        for (int n = 1; n <= 30; n++) {
            sum += n;
            due("n " + n, x.clock(n), sum);
            due("so many times", x.value(0, false), sum % 256);
        }
    }

    static void promise09NoneIfNotReady() {
        CircuitDesk x = counter(8);
        x.clear(0);
        due("1", x.clock(1), NONE);
        due("30", x.clock(30), NONE);
        due("0", x.clock(0), REFUSED);
        due("31", x.clock(31), REFUSED);
        x.compile();
        due("from 0", x.clock(1), 1);
    }

    static void promise09SinceCompileOrReset() {
        CircuitDesk x = counter(8);
        x.clock(30);
        due("on", x.clock(30), 60);
        x.reset();
        due("since reset", x.clock(2), 2);
        x.compile();
        due("since compile", x.clock(3), 3);
        x.input(0, 1);
        due("on behind a none", x.clock(1), 4);
    }

    static void promise09AllAtOnce() {
        CircuitDesk x = desk();
        for (int s = 0; s < 3; s++) {
            x.signal(REGISTER, 4, s + 1);
        }
        for (int s = 0; s < 3; s++) {
            x.state(SET, s, (s + 1) % 3);
        }
        x.compile();
        x.clock(1);
        due("0", x.value(0, false), 2);
        due("1", x.value(1, false), 3);
        due("2", x.value(2, false), 1);
        x.clock(30);
        due("0 behind 31", x.value(0, false), 2);
    }

    static void promise09AllOf14AtOnce() {
        CircuitDesk x = desk();
        for (int s = 0; s < MOST_SIGNALS; s++) {
            x.signal(REGISTER, 8, 200 + s);
        }
        for (int s = 0; s < MOST_SIGNALS; s++) {
            x.state(SET, s, (s + 1) % MOST_SIGNALS);
        }
        x.compile();
        x.clock(1);
        due("the first one", x.value(0, false), 201);
        due("the last one", x.value(13, false), 200);
        x.clock(13);
        for (int s = 0; s < MOST_SIGNALS; s++) {
            due("once round, " + s, x.value(s, false), 200 + s);
        }
    }

    static void promise09WithoutRegisters() {
        CircuitDesk x = desk();
        x.compile();
        due("no signals", x.clock(30), 30);
        CircuitDesk y = deskWithInputs(1);
        y.compile();
        due("no registers", y.clock(1), 1);
    }

    static void promise09ARegisterWithoutSetKeepsWhatItHas() {
        CircuitDesk x = deskWithInputs(1);
        x.signal(REGISTER, 4, 9);
        x.signal(REGISTER, 4, 3);
        x.state(WHEN, 0, 0);
        x.state(SET, 2, 1);
        x.state(END, 0, 0);
        x.compile();
        x.clock(30);
        due("no set", x.value(1, false), 9);
        due("no set that was done", x.value(2, false), 3);
        x.input(0, 1);
        x.clock(1);
        due("set", x.value(2, false), 9);
    }

    static void promise09CountsPastItsWidth() {
        for (int width = 1; width <= MOST_WIDTH; width++) {
            CircuitDesk x = counter(width);
            for (int times = 1; times < 1 << width; times++) {
                x.clock(1);
            }
            due("greatest of width " + width, x.value(0, false), greatest(width));
            x.clock(1);
            due("from 0 again", x.value(0, false), 0);
            due("counted on", x.count(6), 1 << width);
        }
    }

    static void promise09BelowZeroChangesNothing() {
        CircuitDesk x = readyDesk();
        x.input(0, 6);
        x.clock(2);
        x.input(0, 1);
        String before = all(x);
        x.clock(0);
        x.clock(31);
        x.clock(-1);
        due("all", all(x), before);
    }

    /** An object is used for at most 512 calls, so each of them must be answered. */
    static void promise09InAll512Calls() {
        CircuitDesk x = counter(8);
        int made = 5;
        for (int call = made + 1; call <= 511; call++) {
            due("call " + call, x.clock(30), 30 * (call - made));
        }
        due("call 512", x.value(0, false), 30 * (511 - made) % 256);
    }

    static void promise10FalseIfNotReady() {
        CircuitDesk x = deskWithEachKind();
        due("before compile", x.reset(), false);
        due("still a draft", x.count(2), 0);
        x.compile();
        due("ready", x.reset(), true);
        x.state(SET, 1, 1);
        due("draft", x.reset(), false);
        due("loop", x.compile(), LOOP);
        due("behind loop", x.reset(), false);
        due("still a draft", x.count(2), 0);
    }

    static void promise10WithoutSignals() {
        CircuitDesk x = desk();
        due("before compile", x.reset(), false);
        x.compile();
        due("ready", x.reset(), true);
    }

    static void promise10RegistersAndInputsAgain() {
        CircuitDesk x = readyDesk();
        x.input(0, 6);
        x.clock(3);
        due("register before", x.value(2, false), 1);
        due("reset", x.reset(), true);
        due("input", x.value(0, false), 0);
        due("wire", x.value(1, false), 0);
        due("register", x.value(2, false), 5);
        due("next", x.value(2, true), 7);
        due("clocks", x.count(6), 0);
        due("ready", x.count(2), 1);
        due("twice", x.reset(), true);
        due("register", x.value(2, false), 5);
    }

    static void promise10FalseChangesNothing() {
        CircuitDesk x = deskWithEachKind();
        String before = all(x);
        x.reset();
        due("draft", all(x), before);
        x.state(SET, 1, 1);
        x.compile();
        before = all(x);
        x.reset();
        due("loop", all(x), before);
        due("where", x.where(), 1);
    }

    static void promise11NoneIfNotReady() {
        CircuitDesk x = deskWithEachKind();
        for (int s = 0; s <= 3; s++) {
            due("now of " + s, x.value(s, false), NONE);
            due("next of " + s, x.value(s, true), NONE);
        }
        x.compile();
        due("ready", x.value(2, false), 5);
        x.clear(0);
        due("draft again", x.value(2, false), NONE);
        due("next, draft again", x.value(2, true), NONE);
    }

    static void promise11NoneIfThereIsNoSuchSignal() {
        CircuitDesk x = readyDesk();
        for (int s : outside(0, 3)) {
            due("now of " + s, x.value(s, false), NONE);
            due("next of " + s, x.value(s, true), NONE);
        }
        CircuitDesk y = desk();
        y.compile();
        due("no signals", y.value(0, false), NONE);
        CircuitDesk z = desk();
        fillWithInputs(z);
        z.compile();
        due("the last of 14", z.value(13, false), 0);
        due("behind the last of 14", z.value(14, false), NONE);
    }

    static void promise11NextOfOthersIsTheSame() {
        CircuitDesk x = readyDesk();
        x.input(0, 6);
        due("input", x.value(0, true), 6);
        due("wire", x.value(1, true), 6);
        due("node", x.value(3, true), 1);
        due("register", x.value(2, true), 1);
        due("register now", x.value(2, false), 5);
    }

    /** What rests on a REGISTER has the value of now, with next true as well. */
    static void promise11NextOfANodeOfARegisterIsTheSame() {
        CircuitDesk x = deskWithInputs(4);
        x.signal(REGISTER, 4, 5);
        x.node(NOT, 1, 0, 0);
        x.signal(WIRE, 4, 0);
        x.state(SET, 3, 1);
        x.state(SET, 1, 0);
        x.compile();
        x.input(0, 2);
        due("node", x.value(2, true), 10);
        due("wire", x.value(3, true), 5);
        due("register", x.value(1, true), 2);
        x.clock(1);
        due("node behind a clock", x.value(2, true), 13);
        due("wire behind a clock", x.value(3, true), 2);
    }

    static void promise11NextOfARegisterIfNoneWasDone() {
        CircuitDesk x = deskWithInputs(1);
        x.signal(REGISTER, 8, 255);
        x.signal(REGISTER, 8, 254);
        x.node(NOT, 2, 0, 0);
        x.state(WHEN, 0, 0);
        x.state(SET, 2, 3);
        x.state(END, 0, 0);
        x.compile();
        due("no set", x.value(1, true), 255);
        due("not done", x.value(2, true), 254);
        x.input(0, 1);
        due("done", x.value(2, true), 1);
    }

    static void promise11LookingChangesNothing() {
        CircuitDesk x = readyDesk();
        x.input(0, 6);
        String before = all(x);
        x.value(2, true);
        x.value(9, true);
        due("all", all(x), before);
        due("register", x.value(2, false), 5);
    }

    static void promise12WhatIs0To4() {
        CircuitDesk x = deskWithEachKind();
        for (int what : outside(0, 4)) {
            due("draft, what " + what, x.tell(0, what), REFUSED);
            due("no such signal, what " + what, x.tell(4, what), REFUSED);
        }
        x.compile();
        for (int what : outside(0, 4)) {
            due("ready, what " + what, x.tell(0, what), REFUSED);
        }
    }

    static void promise12NoneIfThereIsNoSuchSignal() {
        CircuitDesk x = readyDesk();
        for (int what = 0; what <= 4; what++) {
            for (int s : outside(0, 3)) {
                due("signal " + s + " what " + what, x.tell(s, what), NONE);
            }
        }
        x.clear(1);
        for (int what = 0; what <= 4; what++) {
            due("cleared, what " + what, x.tell(0, what), NONE);
        }
    }

    static void promise12OpIsNoneIfItIsNoNode() {
        CircuitDesk x = deskWithEachKind();
        for (int s = 0; s < 3; s++) {
            due("kind " + s, x.tell(s, 2), NONE);
        }
        due("node", x.tell(3, 2), NOT);
    }

    /** The place of a SIGNAL had a NODE before. */
    static void promise12OpIsNoneWhereANodeWasCleared() {
        CircuitDesk x = desk();
        x.node(CONSTANT, 1, 1, 0);
        x.clear(1);
        x.signal(INPUT, 1, 0);
        due("op", x.tell(0, 2), NONE);
        due("kind", x.tell(0, 0), INPUT);
    }

    static void promise12KindWidthAndOpAlsoOfADraft() {
        CircuitDesk x = deskWithEachKind();
        for (int s = 0; s <= 3; s++) {
            due("kind", x.tell(s, 0), s);
            due("width", x.tell(s, 1), 3);
        }
        x.compile();
        for (int s = 0; s <= 3; s++) {
            due("kind", x.tell(s, 0), s);
            due("width", x.tell(s, 1), 3);
        }
    }

    static void promise12FixedBitsAndDepthAreNoneIfNotReady() {
        CircuitDesk x = deskWithEachKind();
        for (int s = 0; s <= 3; s++) {
            due("fixed bits", x.tell(s, 3), NONE);
            due("depth", x.tell(s, 4), NONE);
        }
        x.compile();
        for (int s = 0; s <= 3; s++) {
            due("fixed bits", x.tell(s, 3), 0);
            due("depth", x.tell(s, 4), 0);
        }
        x.clear(0);
        due("fixed bits, draft again", x.tell(0, 3), NONE);
        due("depth, draft again", x.tell(0, 4), NONE);
    }

    static void promise12FixedBitsFromNoneToAll() {
        for (int width = 1; width <= MOST_WIDTH; width++) {
            CircuitDesk x = deskWithInputs(8);
            x.node(CONSTANT, greatest(width), width, 0);
            x.node(NOT, 1, 0, 0);
            x.node(AND, 0, 1, 0);
            x.node(OR, 0, 1, 0);
            x.compile();
            due("input", x.tell(0, 3), 0);
            due("all true", x.tell(1, 3), width);
            due("all false", x.tell(2, 3), width);
            due("false in front", x.tell(3, 3), MOST_WIDTH - width);
            due("true behind", x.tell(4, 3), width);
        }
    }

    /** A BIT counts as a LITERAL: one that is always 0, but made by a GATE, is not FALSE. */
    static void promise12FixedBitsAsLiterals() {
        CircuitDesk x = deskWithInputs(1, 1);
        x.node(NOT, 0, 0, 0);
        x.node(AND, 0, 1, 0);
        x.node(AND, 3, 2, 0);
        x.node(AND, 0, 2, 0);
        x.compile();
        due("opposites joined", x.tell(5, 3), 1);
        due("a gate that is always 0", x.tell(4, 3), 0);
        due("its depth", x.tell(4, 4), 2);
    }

    static void promise12FixedBitsOfARegisterAreItsOwn() {
        CircuitDesk x = desk();
        x.signal(REGISTER, 4, 0);
        x.node(CONSTANT, 0, 4, 0);
        x.state(SET, 0, 1);
        x.compile();
        due("register", x.tell(0, 3), 0);
    }

    static void promise12DepthOfBitsWithoutGates() {
        CircuitDesk x = deskWithInputs(4);
        x.signal(REGISTER, 4, 0);
        x.node(CONSTANT, 5, 4, 0);
        x.node(NOT, 0, 0, 0);
        x.node(JOIN, 0, 1, 0);
        x.node(PART, 4, 2, 4);
        x.node(SUB, 0, 1, 0);
        x.state(SET, 1, 6);
        x.compile();
        for (int s = 0; s < 6; s++) {
            due("signal " + s, x.tell(s, 4), 0);
        }
    }

    static void promise12DepthIsTheGreatestOfItsBits() {
        CircuitDesk x = deskWithInputs(1, 1, 1);
        x.node(AND, 0, 1, 0);
        x.node(AND, 3, 2, 0);
        x.node(JOIN, 4, 0, 0);
        x.node(JOIN, 0, 4, 0);
        x.node(NOT, 4, 0, 0);
        x.node(AND, 2, 7, 0);
        x.compile();
        due("1", x.tell(3, 4), 1);
        due("2", x.tell(4, 4), 2);
        due("greatest in front", x.tell(5, 4), 2);
        due("greatest behind", x.tell(6, 4), 2);
        due("opposite", x.tell(7, 4), 2);
        due("1 more than the greater one", x.tell(8, 4), 3);
    }

    static void promise13WhatIs0To7() {
        CircuitDesk x = deskWithEachKind();
        for (int what : outside(0, 7)) {
            due("draft, what " + what, x.count(what), REFUSED);
        }
        x.compile();
        for (int what : outside(0, 7)) {
            due("ready, what " + what, x.count(what), REFUSED);
        }
    }

    static void promise13SignalsFrom0To14() {
        CircuitDesk x = desk();
        for (int s = 0; s <= MOST_SIGNALS; s++) {
            due("signals", x.count(0), s);
            x.signal(INPUT, 1, 0);
        }
        due("not above", x.count(0), MOST_SIGNALS);
    }

    static void promise13StatementsFrom0To20() {
        CircuitDesk x = desk();
        x.signal(REGISTER, 1, 0);
        for (int i = 0; i <= MOST_STATEMENTS; i++) {
            due("statements", x.count(1), i);
            x.state(SET, 0, 0);
        }
        due("not above", x.count(1), MOST_STATEMENTS);
    }

    static void promise13ReadyOrNot() {
        CircuitDesk x = deskWithEachKind();
        due("draft", x.count(2), 0);
        x.compile();
        due("ready", x.count(2), 1);
        x.state(SET, 2, 0);
        due("draft again", x.count(2), 0);
    }

    static void promise13NoneIfNotReady() {
        CircuitDesk x = counter(4);
        x.clock(2);
        for (int what = 3; what <= 6; what++) {
            due("ready, what " + what, x.count(what) > 0, true);
        }
        x.clear(0);
        for (int what = 3; what <= 6; what++) {
            due("draft, what " + what, x.count(what), NONE);
        }
    }

    static void promise13Gates0Without() {
        CircuitDesk x = readyDesk();
        due("gates", x.count(3), 0);
        due("depth", x.count(4), 0);
        due("gates at 1", x.count(5), 0);
        CircuitDesk y = desk();
        y.compile();
        due("gates without signals", y.count(3), 0);
        due("depth without signals", y.count(4), 0);
        due("gates at 1 without signals", y.count(5), 0);
        due("clocks without signals", y.count(6), 0);
    }

    static void promise13DepthIs0AgainWithoutGates() {
        CircuitDesk x = counter(4);
        due("with gates", x.count(4) > 0, true);
        x.clear(1);
        x.compile();
        due("without", x.count(4), 0);
    }

    static void promise13GreatestDepthIsNotThatOfTheLastGate() {
        CircuitDesk x = deskWithInputs(1, 1, 1);
        x.node(AND, 0, 1, 0);
        x.node(AND, 3, 2, 0);
        x.node(AND, 1, 2, 0);
        due("gates", x.compile(), 3);
        due("depth", x.count(4), 2);
    }

    /** Also of GATES that no SIGNAL's value comes from: of NEXT BITS, and of a SET that never counts. */
    static void promise13GreatestDepthOfAllGates() {
        CircuitDesk x = deskWithInputs(1);
        x.signal(REGISTER, 1, 0);
        x.node(NOT, 1, 0, 0);
        x.state(WHEN, 0, 0);
        x.state(SET, 1, 2);
        x.state(END, 0, 0);
        due("gates", x.compile(), 3);
        due("of a next bit", x.count(4), 2);
        CircuitDesk y = deskWithInputs(1, 1);
        y.signal(WIRE, 1, 0);
        y.state(WHEN, 0, 0);
        y.state(SET, 2, 1);
        y.state(END, 0, 0);
        y.state(SET, 2, 0);
        due("gates", y.compile(), 1);
        due("of a set that never counts", y.count(4), 1);
    }

    static void promise13GatesThatAre1Now() {
        CircuitDesk x = deskWithInputs(8);
        x.signal(REGISTER, 8, 255);
        x.node(AND, 0, 1, 0);
        x.state(SET, 1, 0);
        due("gates", x.compile(), 8);
        due("none", x.count(5), 0);
        x.input(0, 255);
        due("all", x.count(5), 8);
        x.input(0, 15);
        due("half", x.count(5), 4);
        x.clock(1);
        x.input(0, 255);
        due("behind a clock", x.count(5), 4);
        x.reset();
        due("behind a reset", x.count(5), 0);
    }

    static void promise13ClocksSinceCompileOrReset() {
        CircuitDesk x = counter(4);
        due("none", x.count(6), 0);
        x.clock(30);
        x.clock(1);
        due("done", x.count(6), 31);
        x.reset();
        due("behind reset", x.count(6), 0);
        x.clock(5);
        x.compile();
        due("behind compile", x.count(6), 0);
    }

    static void promise13WhensAroundTheNextStatement() {
        CircuitDesk x = deskWithInputs(1);
        for (int i = 0; i < 4; i++) {
            due("whens", x.count(7), i);
            x.state(WHEN, 0, 0);
        }
        for (int i = 4; i > 0; i--) {
            due("first part", x.count(7), i);
            x.state(ELSE, 0, 0);
            due("second part", x.count(7), i);
            x.state(END, 0, 0);
        }
        due("none", x.count(7), 0);
        x.compile();
        due("ready", x.count(7), 0);
    }
}
