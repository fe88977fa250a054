import java.lang.reflect.InvocationTargetException;
import java.lang.reflect.Method;
import java.util.Arrays;
import java.util.Comparator;

/** What the tests share: the document's words as numbers, and the count of answers not as due. */
abstract class DeskTest {
    static final int INPUT = 0;
    static final int WIRE = 1;
    static final int REGISTER = 2;
    static final int NODE = 3;

    static final int NOT = 0;
    static final int AND = 1;
    static final int OR = 2;
    static final int XOR = 3;
    static final int ADD = 4;
    static final int SUB = 5;
    static final int EQUAL = 6;
    static final int LESS = 7;
    static final int JOIN = 8;
    static final int PART = 9;
    static final int CHOOSE = 10;
    static final int CONSTANT = 11;

    static final int SET = 0;
    static final int WHEN = 1;
    static final int ELSE = 2;
    static final int END = 3;

    static final int REFUSED = -1;
    static final int NONE = -2;
    static final int FULL = -3;
    static final int OPEN = -4;
    static final int UNSET = -5;
    static final int LOOP = -6;

    static final int MOST_SIGNALS = 14;
    static final int MOST_STATEMENTS = 20;
    static final int MOST_WIDTH = 8;

    private static String test = "";
    private static int tests = 0;
    private static int asked = 0;
    private static int wrong = 0;

    static void due(String what, Object got, Object want) {
        asked++;
        if (!got.equals(want)) {
            wrong++;
            System.out.println(test + what + " answered " + got + ", due is " + want);
        }
    }

    /** Runs each method whose name begins with promise and its number; each promise must have one. */
    static void runTestsOf(Class<?> itsClass, int... promises) {
        Method[] methods = itsClass.getDeclaredMethods();
        Arrays.sort(methods, Comparator.comparing(Method::getName));
        StringBuilder names = new StringBuilder();
        for (Method method : methods) {
            if (method.getName().startsWith("promise")) {
                names.append(method.getName()).append(' ');
                runOne(method);
            }
        }
        test = "";
        for (int promise : promises) {
            String start = String.format("promise%02d", promise);
            due(start + " is tested", names.indexOf(start) >= 0, true);
        }
        System.out.print(tests + " tests, ");
        finish();
    }

    private static void runOne(Method method) {
        tests++;
        test = method.getName() + ": ";
        try {
            method.invoke(null);
        } catch (InvocationTargetException thrown) {
            due("a call", thrown.getCause().toString(), "no exception");
        } catch (IllegalAccessException hidden) {
            due("the test", "hidden", "seen");
        }
    }

    static void finish() {
        System.out.println(asked + " answers asked for, " + wrong + " not as due");
        if (wrong != 0) {
            System.exit(1);
        }
    }

    static CircuitDesk desk() {
        return new CircuitDesk();
    }

    /** INPUTS of the widths, numbered from 0 on. */
    static CircuitDesk deskWithInputs(int... widths) {
        CircuitDesk x = desk();
        for (int i = 0; i < widths.length; i++) {
            due("input made", x.signal(INPUT, widths[i], 0), i);
        }
        return x;
    }

    /** INPUT 0, WIRE 1 that is set to it, REGISTER 2 (RESET 5) that is set to NODE 3, its opposite. */
    static CircuitDesk deskWithEachKind() {
        CircuitDesk x = deskWithInputs(3);
        x.signal(WIRE, 3, 0);
        x.signal(REGISTER, 3, 5);
        x.node(NOT, 0, 0, 0);
        x.state(SET, 1, 0);
        x.state(SET, 2, 3);
        return x;
    }

    /** Makes INPUTS until there is no room; a desk that is never full must not hold up the tests. */
    static void fillWithInputs(CircuitDesk x) {
        for (int i = 0; i < MOST_SIGNALS && x.count(0) < MOST_SIGNALS; i++) {
            x.signal(INPUT, 1, 0);
        }
    }

    /** States SETS of s until there is no room. */
    static void fillWithSets(CircuitDesk x, int s, int a) {
        for (int i = 0; i < MOST_STATEMENTS && x.count(1) < MOST_STATEMENTS; i++) {
            x.state(SET, s, a);
        }
    }

    /** Numbers that are not least to most: those next to them, and the farthest ones. */
    static int[] outside(int least, int most) {
        return new int[] {Integer.MIN_VALUE, least - 1, most + 1, Integer.MAX_VALUE};
    }

    static int greatest(int width) {
        return (1 << width) - 1;
    }

    /** All that can be seen of a desk without changing it. */
    static String all(CircuitDesk x) {
        StringBuilder text = new StringBuilder();
        for (int what = 0; what <= 7; what++) {
            text.append(x.count(what)).append(' ');
        }
        text.append("where ").append(x.where());
        int signals = Math.min(x.count(0), MOST_SIGNALS);
        for (int s = 0; s < signals; s++) {
            text.append(" signal");
            for (int what = 0; what <= 4; what++) {
                text.append(' ').append(x.tell(s, what));
            }
            text.append(' ').append(x.value(s, false)).append(' ').append(x.value(s, true));
        }
        return text.toString();
    }
}
