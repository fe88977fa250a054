import java.util.ArrayList;
import java.util.Arrays;
import java.util.HashMap;
import java.util.HashSet;
import java.util.List;
import java.util.Map;
import java.util.Random;
import java.util.Set;

/**
 * Long runs of calls, made anew in the same way each time, on CircuitDesk and on a plain model
 * of the document. The model computes with words, keeps STATEMENTS as a tree and makes gates on
 * demand, so that a mistake in how CircuitDesk does these would show.
 */
public final class ModelTests {
    private static final int RUNS = 6000;
    private static final int LARGE_RUNS = 20000;
    /** A step of a run makes some calls at once: with these it stays below 512. */
    private static final int CALLS = 480;

    private static int wrong = 0;
    private static int compiled = 0;
    private static int mostGates = 0;
    private static final Map<Integer, Integer> FAULTS = new HashMap<>();

    public static void main(String[] args) {
        for (int run = 0; run < RUNS && wrong == 0; run++) {
            new Run(run).go();
        }
        heavyNodes();
        heavySinks();
        heaviest();
        for (int run = 1; run <= LARGE_RUNS && wrong == 0; run++) {
            new Run(-100 - run).goLarge();
        }
        System.out.println(compiled + " circuits compiled, at most " + mostGates + " gates; faults "
                + FAULTS + "; " + wrong + " answers not as due");
        if (compiled < RUNS || FAULTS.size() < 3 || mostGates < 1024) {
            System.out.println("too few circuits of some kind were met, or none that is large");
            wrong++;
        }
        if (wrong != 0) {
            System.exit(1);
        }
    }

    /** As many subtractions and comparisons as there is room for. */
    private static void heavyNodes() {
        Run run = new Run(-1);
        run.signal(0, 8, 0);
        run.signal(2, 8, 77);
        for (int i = 2; i < 14; i++) {
            run.node(i < 9 ? 5 : 7, i < 9 ? i - 1 : i - 8, i - 2, 0);
        }
        run.state(0, 1, 8);
        run.lookAtAll();
    }

    /** As many REGISTERS as there is room for, each set within four WHENS. */
    private static void heavySinks() {
        Run run = new Run(-2);
        for (int i = 0; i < 12; i++) {
            run.signal(2, i < 3 ? 1 : 8, 37 * i % 256);
        }
        run.signal(0, 1, 0);
        run.node(5, 10, 11, 0);
        run.state(1, 12, 0);
        for (int i = 0; i < 3; i++) {
            run.state(1, i, 0);
        }
        for (int i = 0; i < 12; i++) {
            run.state(0, i, i < 3 ? 12 : i == 11 ? 13 : i + 1);
        }
        for (int i = 0; i < 4; i++) {
            run.state(3, 0, 0);
        }
        run.lookAtAll();
    }

    /**
     * Nearly as many gates as there can be: two comparisons make them and are conditions as well,
     * and all other SIGNALS are REGISTERS that are set within four different conditions.
     */
    private static void heaviest() {
        Run run = new Run(-3);
        for (int i = 0; i < 12; i++) {
            run.signal(2, i < 2 ? 1 : 8, 53 * i % 256);
        }
        run.node(7, 2, 3, 0);
        run.node(7, 4, 5, 0);
        for (int i = 0; i < 2; i++) {
            run.state(1, i, 0);
            run.state(1, 12 + i, 0);
        }
        for (int i = 0; i < 12; i++) {
            run.state(0, i, i == 11 ? 2 : i + 1);
        }
        for (int i = 0; i < 4; i++) {
            run.state(3, 0, 0);
        }
        run.lookAtAll();
    }

    /** A run of calls on both. */
    private static final class Run {
        final int number;
        final Random random;
        final CircuitDesk desk = new CircuitDesk();
        final Model model = new Model();
        final List<String> told = new ArrayList<>();

        Run(int number) {
            this.number = number;
            this.random = new Random(number);
        }

        void go() {
            int calls = number % 10 == 0 ? CALLS : 120;
            int hurry = random.nextInt(3);
            while (told.size() < calls && wrong == 0) {
                if (model.ready && random.nextInt(4) != 0) {
                    look();
                } else if (random.nextInt(100) < 4) {
                    oddCall();
                } else {
                    build(hurry);
                }
            }
        }

        /** As many wide NODES as there is room for, and two REGISTERS set within WHENS. */
        void goLarge() {
            signal(0, 1, 0);
            signal(0, 8, 0);
            signal(2, 8, random.nextInt(256));
            signal(2, 7, random.nextInt(256));
            int[] ops = {3, 4, 5, 5, 5, 7, 7, 10};
            for (int i = 0; i < 14; i++) {
                int op = ops[random.nextInt(ops.length)];
                int most = model.signals.size() - 1;
                node(op, op == 10 ? 0 : 1 + random.nextInt(most), 1 + random.nextInt(most), 1 + random.nextInt(most));
            }
            for (int i = 0; i < 3; i++) {
                state(1, any(), 0);
                state(0, 2, any());
                state(2, 0, 0);
                state(0, 3, any());
            }
            for (int i = model.openWhens(); i > 0; i--) {
                state(3, 0, 0);
            }
            lookAtAll();
        }

        void build(int hurry) {
            int way = random.nextInt(100);
            if (way < 3) {
                clear(random.nextInt(3) == 0 ? 1 : 0);
            } else if (way < 12 + 8 * hurry) {
                closeAndCompile();
            } else if (way < 35) {
                signal(random.nextInt(3), random.nextInt(3) == 0 ? 1 : 1 + random.nextInt(8), random.nextInt(256));
            } else if (way < 62) {
                int op = random.nextInt(12);
                node(op, any(), op == 9 ? random.nextInt(4) : op == 11 ? 1 + random.nextInt(8) : any(),
                        op == 9 ? 1 + random.nextInt(4) : any());
            } else {
                int sort = random.nextInt(8);
                state(sort < 4 ? 0 : sort < 6 ? 1 : sort - 4, any(), any());
            }
        }

        int any() {
            return random.nextInt(40) == 0 ? random.nextInt(17) - 1 : random.nextInt(Math.max(1, model.signals.size()));
        }

        void closeAndCompile() {
            for (int i = model.openWhens(); i > 0 && random.nextInt(20) != 0; i--) {
                state(3, 0, 0);
            }
            if (random.nextInt(4) != 0) {
                for (int s = 0; s < model.signals.size(); s++) {
                    if (model.signals.get(s).kind == 1) {
                        state(0, s, random.nextInt(s + 1));
                    }
                }
            }
            compile();
        }

        void look() {
            int way = random.nextInt(100);
            if (way < 25) {
                input(any(), random.nextInt());
            } else if (way < 40) {
                clock(random.nextInt(31));
            } else if (way < 70) {
                value(any(), random.nextBoolean());
            } else if (way < 80) {
                tell(any(), random.nextInt(5));
            } else if (way < 92) {
                count(random.nextInt(8));
            } else if (way < 95) {
                reset();
            } else if (way < 97) {
                compile();
            } else {
                where();
            }
        }

        void oddCall() {
            int[] odd = {-1, 0, 1, 2, 3, 4, 5, 7, 8, 9, 11, 12, 13, 14, 31, 255, 256,
                Integer.MAX_VALUE, Integer.MIN_VALUE};
            int p = odd[random.nextInt(odd.length)];
            int q = odd[random.nextInt(odd.length)];
            int r = odd[random.nextInt(odd.length)];
            int t = odd[random.nextInt(odd.length)];
            switch (random.nextInt(10)) {
                case 0: signal(p, q, r); break;
                case 1: node(p, q, r, t); break;
                case 2: state(p, q, r); break;
                case 3: clear(p); break;
                case 4: input(p, q); break;
                case 5: clock(p); break;
                case 6: value(p, q > 3); break;
                case 7: tell(p, q); break;
                case 8: count(p); break;
                default: where();
            }
        }

        void lookAtAll() {
            compile();
            for (int round = 0; round < 3; round++) {
                for (int s = 0; s < 14; s++) {
                    input(s, 91 * (round + s));
                    value(s, false);
                    value(s, true);
                    tell(s, 3);
                    tell(s, 4);
                }
                for (int what = 0; what < 8; what++) {
                    count(what);
                }
                clock(1 + round);
            }
        }

        void due(String call, int got, int want) {
            told.add(call + " = " + want);
            if (got == want) {
                return;
            }
            wrong++;
            System.out.println("run " + number + ": " + told.get(told.size() - 1) + " is due, answered " + got);
            if (wrong == 1) {
                System.out.println(told);
            }
        }

        void signal(int k, int w, int r) {
            due("signal(" + k + ", " + w + ", " + r + ")", desk.signal(k, w, r), model.signal(k, w, r));
        }

        void node(int o, int a, int b, int c) {
            due("node(" + o + ", " + a + ", " + b + ", " + c + ")", desk.node(o, a, b, c), model.node(o, a, b, c));
        }

        void state(int o, int s, int a) {
            due("state(" + o + ", " + s + ", " + a + ")", desk.state(o, s, a), model.state(o, s, a));
        }

        void clear(int w) {
            due("clear(" + w + ")", desk.clear(w), model.clear(w));
        }

        void compile() {
            int want = model.compile();
            due("compile()", desk.compile(), want);
            where();
            if (want < 0) {
                FAULTS.merge(want, 1, Integer::sum);
            } else {
                compiled++;
                mostGates = Math.max(mostGates, want);
            }
        }

        void where() {
            due("where()", desk.where(), model.fault);
        }

        void input(int s, int v) {
            due("input(" + s + ", " + v + ")", desk.input(s, v), model.input(s, v));
        }

        void clock(int n) {
            due("clock(" + n + ")", desk.clock(n), model.clock(n));
        }

        void reset() {
            due("reset()", desk.reset() ? 1 : 0, model.ready ? 1 : 0);
            if (model.ready) {
                model.startAnew();
            }
        }

        void value(int s, boolean next) {
            due("value(" + s + ", " + next + ")", desk.value(s, next), model.value(s, next));
        }

        void tell(int s, int what) {
            due("tell(" + s + ", " + what + ")", desk.tell(s, what), model.tell(s, what));
        }

        void count(int what) {
            due("count(" + what + ")", desk.count(what), model.count(what));
        }
    }

    private static final class Signal {
        int kind;
        int width;
        int reset;
        int op;
        int[] numbers;
        List<Integer> arguments = new ArrayList<>();
        int now;
    }

    private static final class Item {
        int sink = -1;
        int a;
        final List<Item> first = new ArrayList<>();
        final List<Item> second = new ArrayList<>();
        boolean hasElse;

        boolean isSet() {
            return sink >= 0;
        }
    }

    /** The document, as plainly as it can be written. */
    private static final class Model {
        List<Signal> signals = new ArrayList<>();
        List<Item> row = new ArrayList<>();
        List<Item> open = new ArrayList<>();
        int statements;
        boolean ready;
        int fault = -2;
        int clocks;
        Gates net = new Gates(this);

        boolean isThere(int s) {
            return 0 <= s && s < signals.size();
        }

        int openWhens() {
            return open.size();
        }

        int signal(int kind, int width, int reset) {
            if (kind < 0 || kind > 2 || width < 1 || width > 8) {
                return -1;
            }
            if (kind == 2 && (reset < 0 || reset > 255)) {
                return -1;
            }
            if (signals.size() >= 14) {
                return -3;
            }
            Signal s = new Signal();
            s.kind = kind;
            s.width = width;
            s.reset = kind == 2 ? reset % (1 << width) : 0;
            return add(s);
        }

        int add(Signal s) {
            signals.add(s);
            ready = false;
            return signals.size() - 1;
        }

        int node(int op, int a, int b, int c) {
            if (op < 0 || op > 11) {
                return -1;
            }
            Signal s = new Signal();
            s.kind = 3;
            s.op = op;
            s.numbers = new int[] {a, b, c};
            int many = op == 11 ? 0 : op == 0 || op == 9 ? 1 : op == 10 ? 3 : 2;
            for (int i = 0; i < many; i++) {
                if (!isThere(s.numbers[i])) {
                    return -1;
                }
                s.arguments.add(s.numbers[i]);
            }
            int[] w = new int[3];
            for (int i = 0; i < many; i++) {
                w[i] = signals.get(s.numbers[i]).width;
            }
            if (op == 10 && w[0] != 1 || op == 9 && (b < 0 || c < 1 || (long) b + c > w[0])) {
                return -1;
            }
            if (op == 11 && (b < 1 || b > 8 || a < 0 || a >= 1 << b)) {
                return -1;
            }
            int both = Math.max(w[0], w[1]);
            s.width = switch (op) {
                case 0 -> w[0];
                case 4 -> both + 1;
                case 6, 7 -> 1;
                case 8 -> w[0] + w[1];
                case 9 -> c;
                case 10 -> Math.max(w[1], w[2]);
                case 11 -> b;
                default -> both;
            };
            return s.width > 8 ? -1 : signals.size() >= 14 ? -3 : add(s);
        }

        int state(int sort, int s, int a) {
            if (sort < 0 || sort > 3) {
                return -1;
            }
            if (sort == 0 && (!isThere(s) || !isThere(a)
                    || signals.get(s).kind != 1 && signals.get(s).kind != 2)) {
                return -1;
            }
            if (sort == 1 && (!isThere(s) || signals.get(s).width != 1)) {
                return -1;
            }
            if (sort >= 2 && (open.isEmpty() || sort == 2 && last().hasElse)) {
                return -2;
            }
            if (statements >= 20 || sort == 1 && open.size() >= 4) {
                return -3;
            }
            take(sort, s, a);
            ready = false;
            return ++statements;
        }

        Item last() {
            return open.get(open.size() - 1);
        }

        void take(int sort, int s, int a) {
            if (sort == 2) {
                last().hasElse = true;
                return;
            }
            if (sort == 3) {
                open.remove(open.size() - 1);
                return;
            }
            Item item = new Item();
            item.sink = sort == 0 ? s : -1;
            item.a = sort == 0 ? a : s;
            List<Item> here = open.isEmpty() ? row : last().hasElse ? last().second : last().first;
            here.add(item);
            if (sort == 1) {
                open.add(item);
            }
        }

        int clear(int what) {
            if (what != 0 && what != 1) {
                return -1;
            }
            int were = statements;
            statements = 0;
            row = new ArrayList<>();
            open = new ArrayList<>();
            if (what == 1) {
                signals = new ArrayList<>();
            }
            ready = false;
            return were;
        }

        int compile() {
            fault = -2;
            if (!open.isEmpty()) {
                return -4;
            }
            for (int s = 0; s < signals.size(); s++) {
                if (signals.get(s).kind == 1 && !isSure(row, s)) {
                    fault = s;
                    return -5;
                }
            }
            for (int s = 0; s < signals.size(); s++) {
                Set<Integer> met = new HashSet<>();
                restsOn(s, met);
                if (met.contains(s)) {
                    fault = s;
                    return -6;
                }
            }
            ready = true;
            startAnew();
            net = new Gates(this);
            net.makeAll();
            return net.gates.size();
        }

        boolean isSure(List<Item> part, int s) {
            for (Item i : part) {
                if (i.isSet() ? i.sink == s : isSure(i.first, s) && isSure(i.second, s)) {
                    return true;
                }
            }
            return false;
        }

        void restsOn(int s, Set<Integer> met) {
            Set<Integer> direct = new HashSet<>(signals.get(s).arguments);
            if (signals.get(s).kind == 1) {
                setsOf(row, s, new ArrayList<>(), direct);
            }
            for (int t : direct) {
                if (met.add(t)) {
                    restsOn(t, met);
                }
            }
        }

        void setsOf(List<Item> part, int s, List<Integer> around, Set<Integer> direct) {
            for (Item i : part) {
                if (i.isSet()) {
                    if (i.sink == s) {
                        direct.add(i.a);
                        direct.addAll(around);
                    }
                } else {
                    List<Integer> more = new ArrayList<>(around);
                    more.add(i.a);
                    setsOf(i.first, s, more, direct);
                    setsOf(i.second, s, more, direct);
                }
            }
        }

        void startAnew() {
            for (Signal s : signals) {
                s.now = s.reset;
            }
            clocks = 0;
        }

        int input(int s, int v) {
            if (!ready || !isThere(s) || signals.get(s).kind != 0) {
                return -2;
            }
            Signal i = signals.get(s);
            i.now = Math.floorMod(v, 1 << i.width);
            return i.now;
        }

        int clock(int n) {
            if (n < 1 || n > 30) {
                return -1;
            }
            if (!ready) {
                return -2;
            }
            for (int i = 0; i < n; i++) {
                int[] next = new int[signals.size()];
                for (int s = 0; s < next.length; s++) {
                    next[s] = value(s, true);
                }
                for (int s = 0; s < next.length; s++) {
                    if (signals.get(s).kind == 2) {
                        signals.get(s).now = next[s];
                    }
                }
            }
            clocks += n;
            return clocks;
        }

        int value(int s, boolean next) {
            if (!ready || !isThere(s)) {
                return -2;
            }
            Map<Integer, Integer> known = new HashMap<>();
            if (!next || signals.get(s).kind != 2) {
                return word(s, known);
            }
            Integer set = lastSet(row, s, known);
            return set == null ? signals.get(s).now : set;
        }

        int word(int s, Map<Integer, Integer> known) {
            Signal i = signals.get(s);
            if (i.kind == 0 || i.kind == 2) {
                return i.now;
            }
            if (!known.containsKey(s)) {
                known.put(s, i.kind == 1 ? lastSet(row, s, known) : wordOfNode(i, known));
            }
            return known.get(s);
        }

        Integer lastSet(List<Item> part, int s, Map<Integer, Integer> known) {
            Integer v = null;
            for (Item i : part) {
                if (i.isSet()) {
                    v = i.sink == s ? Integer.valueOf(word(i.a, known) % (1 << signals.get(s).width)) : v;
                } else if (hasSet(i.first, s) || hasSet(i.second, s)) {
                    Integer inner = lastSet(word(i.a, known) == 1 ? i.first : i.second, s, known);
                    v = inner == null ? v : inner;
                }
            }
            return v;
        }

        boolean hasSet(List<Item> part, int s) {
            for (Item i : part) {
                if (i.isSet() ? i.sink == s : hasSet(i.first, s) || hasSet(i.second, s)) {
                    return true;
                }
            }
            return false;
        }

        int wordOfNode(Signal i, Map<Integer, Integer> known) {
            int[] v = new int[3];
            for (int k = 0; k < i.arguments.size(); k++) {
                v[k] = word(i.arguments.get(k), known);
            }
            int all = 1 << i.width;
            return switch (i.op) {
                case 0 -> all - 1 - v[0];
                case 1 -> v[0] & v[1];
                case 2 -> v[0] | v[1];
                case 3 -> v[0] ^ v[1];
                case 4 -> v[0] + v[1];
                case 5 -> Math.floorMod(v[0] - v[1], all);
                case 6 -> v[0] == v[1] ? 1 : 0;
                case 7 -> v[0] < v[1] ? 1 : 0;
                case 8 -> v[0] * (1 << signals.get(i.numbers[1]).width) + v[1];
                case 9 -> v[0] / (1 << i.numbers[1]) % all;
                case 10 -> v[0] == 1 ? v[1] : v[2];
                default -> i.numbers[0];
            };
        }

        int tell(int s, int what) {
            if (what < 0 || what > 4) {
                return -1;
            }
            if (!isThere(s)) {
                return -2;
            }
            Signal i = signals.get(s);
            if (what < 3) {
                return what == 0 ? i.kind : what == 1 ? i.width : i.kind == 3 ? i.op : -2;
            }
            if (!ready) {
                return -2;
            }
            int fixed = 0;
            int depth = 0;
            for (int literal : net.bitsOf(s)) {
                fixed += Math.abs(literal) == 1 ? 1 : 0;
                depth = Math.max(depth, net.depth(literal));
            }
            return what == 3 ? fixed : depth;
        }

        int count(int what) {
            if (what < 0 || what > 7) {
                return -1;
            }
            if (what >= 3 && what <= 6 && !ready) {
                return -2;
            }
            return switch (what) {
                case 0 -> signals.size();
                case 1 -> statements;
                case 2 -> ready ? 1 : 0;
                case 3 -> net.gates.size();
                case 4 -> net.greatestDepth();
                case 5 -> net.ones();
                case 6 -> clocks;
                default -> open.size();
            };
        }
    }

    /** Literals: 1 TRUE, 2 to 999 bits, from 1000 on gates; the opposite is the number below 0. */
    private static final class Gates {
        static final int TRUE = 1;
        static final int FALSE = -1;
        final Model model;
        final Map<List<Integer>, Integer> gates = new HashMap<>();
        final List<List<Integer>> pairs = new ArrayList<>();
        final List<Integer> depths = new ArrayList<>();
        final Map<Integer, int[]> bits = new HashMap<>();

        Gates(Model model) {
            this.model = model;
        }

        void makeAll() {
            for (int s = model.signals.size() - 1; s >= 0; s--) {
                if (model.signals.get(s).kind == 2) {
                    for (int bit = 0; bit < model.signals.get(s).width; bit++) {
                        through(model.row, s, bit, bitsOf(s)[bit]);
                    }
                }
                bitsOf(s);
            }
        }

        int[] bitsOf(int s) {
            if (!bits.containsKey(s)) {
                bits.put(s, make(s, model.signals.get(s)));
            }
            return bits.get(s);
        }

        int bit(int s, int i) {
            return i < model.signals.get(s).width ? bitsOf(s)[i] : FALSE;
        }

        int through(List<Item> part, int s, int bit, int start) {
            int v = start;
            for (Item i : part) {
                if (i.isSet()) {
                    v = i.sink == s ? bit(i.a, bit) : v;
                } else {
                    int x = through(i.first, s, bit, v);
                    int y = through(i.second, s, bit, v);
                    v = x == y ? x : pick(bit(i.a, 0), x, y);
                }
            }
            return v;
        }

        int[] make(int s, Signal i) {
            int[] made = new int[i.width];
            int carry = i.op == 4 ? FALSE : TRUE;
            if (i.kind == 3 && (i.op == 4 || i.op == 5 || i.op == 7)) {
                int both = Math.max(model.signals.get(i.numbers[0]).width, model.signals.get(i.numbers[1]).width);
                int[] sum = new int[both + 1];
                for (int k = 0; k < both; k++) {
                    int a = bit(i.numbers[0], k);
                    int b = i.op == 4 ? bit(i.numbers[1], k) : -bit(i.numbers[1], k);
                    int h = diff(a, b);
                    sum[k] = diff(h, carry);
                    carry = either(join(a, b), join(h, carry));
                }
                sum[both] = carry;
                return i.op == 7 ? new int[] {-carry} : Arrays.copyOf(sum, i.width);
            }
            for (int k = 0; k < i.width; k++) {
                made[k] = i.kind == 1 ? through(model.row, s, k, FALSE)
                        : i.kind == 3 ? bitOfNode(i, k) : 2 + s * 8 + k;
            }
            return made;
        }

        int bitOfNode(Signal i, int k) {
            int a = i.numbers[0];
            int b = i.numbers[1];
            int c = i.numbers[2];
            switch (i.op) {
                case 0: return -bit(a, k);
                case 1: return join(bit(a, k), bit(b, k));
                case 2: return either(bit(a, k), bit(b, k));
                case 3: return diff(bit(a, k), bit(b, k));
                case 6: return equal(a, b);
                case 8:
                    int low = model.signals.get(b).width;
                    return k < low ? bit(b, k) : bit(a, k - low);
                case 9: return bit(a, b + k);
                case 10: return pick(bit(a, 0), bit(b, k), bit(c, k));
                default: return (a / (1 << k)) % 2 == 1 ? TRUE : FALSE;
            }
        }

        int equal(int a, int b) {
            int e = TRUE;
            for (int k = 0; k < 8; k++) {
                e = join(e, -diff(bit(a, k), bit(b, k)));
            }
            return e;
        }

        int join(int x, int y) {
            if (x == FALSE || y == FALSE || x == -y) {
                return FALSE;
            }
            if (x == TRUE || y == TRUE) {
                return x == TRUE ? y : x;
            }
            if (x == y) {
                return x;
            }
            List<Integer> pair = List.of(Math.min(x, y), Math.max(x, y));
            if (!gates.containsKey(pair)) {
                gates.put(pair, 1000 + pairs.size());
                pairs.add(pair);
                depths.add(1 + Math.max(depth(x), depth(y)));
            }
            return gates.get(pair);
        }

        int either(int x, int y) {
            return -join(-x, -y);
        }

        int pick(int c, int x, int y) {
            return x == y ? x : either(join(c, x), join(-c, y));
        }

        int diff(int x, int y) {
            return join(-join(x, y), -join(-x, -y));
        }

        int depth(int literal) {
            return Math.abs(literal) < 1000 ? 0 : depths.get(Math.abs(literal) - 1000);
        }

        int greatestDepth() {
            int d = 0;
            for (int one : depths) {
                d = Math.max(d, one);
            }
            return d;
        }

        int ones() {
            boolean[] on = new boolean[pairs.size()];
            int ones = 0;
            for (int g = 0; g < on.length; g++) {
                on[g] = isOn(pairs.get(g).get(0), on) && isOn(pairs.get(g).get(1), on);
                ones += on[g] ? 1 : 0;
            }
            return ones;
        }

        boolean isOn(int literal, boolean[] on) {
            int n = Math.abs(literal);
            boolean is = n >= 1000 ? on[n - 1000]
                    : n == 1 || (model.signals.get((n - 2) / 8).now >> (n - 2) % 8 & 1) == 1;
            return is == literal > 0;
        }
    }
}
