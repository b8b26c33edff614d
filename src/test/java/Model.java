import java.math.BigInteger;
import java.util.ArrayDeque;
import java.util.ArrayList;
import java.util.Arrays;
import java.util.Deque;
import java.util.HashMap;
import java.util.List;
import java.util.Map;
import java.util.TreeSet;

/**
 * The document once more, written for plainness alone: everything is found anew at each call, with
 * sets, lists and numbers without end. Where the class works backward, this works forward.
 */
final class Model {
    private static final BigInteger LONGEST = BigInteger.valueOf(Long.MAX_VALUE);

    private record Instruction(String name, int operation, long arg) {
    }

    private static final class Body {
        int arguments;
        int results;
        int locals;
        final List<Instruction> code = new ArrayList<>();
    }

    /** What CHECKING finds. */
    private static final class Found {
        int fault;
        int place = -1;
        Integer[] heights;
    }

    private final List<Body> methods = new ArrayList<>();
    private final int[] costs = new int[18];
    private final List<Long> words = new ArrayList<>();
    private int place = -1;
    private int analysed = -1;
    private TreeSet<Integer> reached = new TreeSet<>();
    private TreeSet<Integer> faulty = new TreeSet<>();
    private TreeSet<Integer> circular = new TreeSet<>();
    private BigInteger[][] bounds = new BigInteger[32][2];
    private long[] ran = new long[5];

    Model() {
        Arrays.fill(costs, 1);
    }

    int method(int arguments, int results, int locals) {
        need(arguments >= 0 && arguments <= 8 && (results == 0 || results == 1)
                && locals >= arguments && locals <= 16);
        if (methods.size() == 32) {
            return -1;
        }
        Body b = new Body();
        b.arguments = arguments;
        b.results = results;
        b.locals = locals;
        methods.add(b);
        return methods.size() - 1;
    }

    int add(int method, int operation, long arg) {
        Body b = body(method);
        if (b.code.size() == 120) {
            return -1;
        }
        b.code.add(instruction(operation, arg));
        return b.code.size() - 1;
    }

    int change(int method, int i, int operation, long arg) {
        inside(i, body(method).code.size());
        return body(method).code.set(i, instruction(operation, arg)).operation();
    }

    int cost(int operation, int cycles) {
        inside(operation, 18);
        need(cycles >= 0 && cycles <= 1000000);
        int before = costs[operation];
        costs[operation] = cycles;
        return before;
    }

    int check(int method) {
        Found f = found(body(method));
        place = f.place;
        return f.fault;
    }

    int place() {
        return place;
    }

    int height(int method, int i) {
        inside(i, body(method).code.size());
        Found f = found(body(method));
        return f.fault != 0 || f.heights[i] == null ? -1 : f.heights[i];
    }

    int analyse(int method) {
        body(method);
        reached = new TreeSet<>();
        faulty = new TreeSet<>();
        circular = new TreeSet<>();
        bounds = new BigInteger[32][2];
        reach(method, reached);
        for (int m : reached) {
            if (found(methods.get(m)).fault != 0) {
                faulty.add(m);
            }
        }
        analysed = 1;
        if (!faulty.isEmpty()) {
            return analysed;
        }
        for (int m : reached) {
            TreeSet<Integer> from = new TreeSet<>();
            for (int called : callees(m)) {
                reach(called, from);
            }
            if (from.contains(m)) {
                circular.add(m);
            }
        }
        analysed = 2;
        if (!circular.isEmpty()) {
            return analysed;
        }
        analysed = 0;
        for (int m : reached) {
            bounds[m][0] = stack(m);
            bounds[m][1] = time(m);
            if (bounds[m][1].compareTo(LONGEST) > 0) {
                analysed = 3;
            }
        }
        return analysed;
    }

    int told(int method, int what) {
        body(method);
        inside(what, 3);
        List<TreeSet<Integer>> all = List.of(reached, faulty, circular);
        return all.get(what).contains(method) ? 1 : 0;
    }

    long bound(int method, int what) {
        body(method);
        inside(what, 2);
        BigInteger b = bounds[method][what];
        return b == null || b.compareTo(LONGEST) > 0 ? -1 : b.longValueExact();
    }

    int argument(long v) {
        if (words.size() == 8) {
            throw new IllegalStateException();
        }
        words.add(v);
        return words.size();
    }

    int run(int method, int most) {
        Body b = body(method);
        need(words.size() == b.arguments && most >= 0 && most <= 100000);
        Runner r = new Runner(most);
        int end = r.run(b, new ArrayList<>(words));
        words.clear();
        ran = new long[] {end == 1 ? r.result : 0, r.cycles, r.words, r.done, r.calls};
        return end;
    }

    long ran(int what) {
        inside(what, 5);
        return ran[what];
    }

    int about(int method, int what) {
        Body b = body(method);
        inside(what, 4);
        return new int[] {b.arguments, b.results, b.locals, b.code.size()}[what];
    }

    private static Instruction instruction(int operation, long arg) {
        boolean known = operation >= 0 && operation < 18;
        return new Instruction(known ? Code.NAMES.get(operation) : "?", operation, arg);
    }

    private Body body(int method) {
        inside(method, methods.size());
        return methods.get(method);
    }

    private static void inside(int i, int size) {
        if (i < 0 || i >= size) {
            throw new IndexOutOfBoundsException();
        }
    }

    private static void need(boolean isSo) {
        if (!isSo) {
            throw new IllegalArgumentException();
        }
    }

    // CHECKING

    private Found found(Body b) {
        Found f = new Found();
        for (int i = 0; i < b.code.size() && f.fault == 0; i++) {
            note(f, formFault(b, i), i);
        }
        if (f.fault == 0) {
            tellHeights(b, f);
        }
        return f;
    }

    private static void note(Found f, int fault, int i) {
        f.fault = fault;
        f.place = fault == 0 ? -1 : i;
    }

    private int formFault(Body b, int i) {
        Instruction in = b.code.get(i);
        long arg = in.arg();
        boolean right = switch (in.name()) {
            case "PUSH", "CALL" -> true;
            case "LOAD", "STORE" -> 0 <= arg && arg < b.locals;
            case "OVER" -> 0 <= arg && arg <= 100;
            case "JUMP", "IFNOT" -> i < arg && arg < b.code.size();
            case "LOOP" -> 0 <= arg && arg <= 1000000000;
            case "?" -> false;
            default -> arg == 0;
        };
        if (!right) {
            return 1;
        }
        return switch (in.name()) {
            case "LOOP" -> mate(b, i) < 0 || around(b, i).size() >= 8 ? 2 : 0;
            case "END" -> mate(b, i) < 0 ? 2 : 0;
            case "JUMP", "IFNOT" -> around(b, i).equals(around(b, (int) arg)) ? 0 : 3;
            case "CALL" -> 0 <= arg && arg < methods.size() ? 0 : 4;
            default -> 0;
        };
    }

    /** Of a LOOP its END, of an END its LOOP, found by counting brackets away from it. */
    private static int mate(Body b, int i) {
        boolean isLoop = b.code.get(i).name().equals("LOOP");
        int way = isLoop ? 1 : -1;
        int open = 0;
        for (int j = i; j >= 0 && j < b.code.size(); j += way) {
            String name = b.code.get(j).name();
            open += name.equals(isLoop ? "LOOP" : "END") ? 1 : 0;
            open -= name.equals(isLoop ? "END" : "LOOP") ? 1 : 0;
            if (open == 0) {
                return j;
            }
        }
        return -1;
    }

    /** The LOOPS that an INSTRUCTION is within. */
    private static TreeSet<Integer> around(Body b, int i) {
        TreeSet<Integer> all = new TreeSet<>();
        for (int loop = 0; loop < i; loop++) {
            if (b.code.get(loop).name().equals("LOOP")) {
                int end = mate(b, loop);
                if (end < 0 || i <= end) {
                    all.add(loop);
                }
            }
        }
        return all;
    }

    private void tellHeights(Body b, Found f) {
        int size = b.code.size();
        f.heights = new Integer[size];
        if (size == 0) {
            note(f, 9, 0);
            return;
        }
        f.heights[0] = 0;
        for (int i = 0; i < size && f.fault == 0; i++) {
            if (f.heights[i] != null) {
                note(f, heightFault(b, f, i), i);
            }
        }
    }

    private int heightFault(Body b, Found f, int i) {
        TreeSet<Integer> faults = new TreeSet<>();
        int before = f.heights[i];
        int[] change = takesAndGives(b, b.code.get(i));
        if (before < change[0]) {
            return 5;
        }
        int behind = before - change[0] + change[1];
        if (behind > 100) {
            faults.add(6);
        }
        String name = b.code.get(i).name();
        if (name.equals("END") && before != f.heights[mate(b, i)]) {
            faults.add(7);
        }
        if (name.equals("RETURN") && before > b.results) {
            faults.add(8);
        }
        for (int to : successors(b, i)) {
            if (to >= b.code.size()) {
                faults.add(9);
            } else if (f.heights[to] == null) {
                f.heights[to] = behind;
            } else if (f.heights[to] != behind) {
                faults.add(7);
            }
        }
        return faults.isEmpty() ? 0 : faults.first();
    }

    private static List<Integer> successors(Body b, int i) {
        Instruction in = b.code.get(i);
        return switch (in.name()) {
            case "JUMP" -> List.of((int) in.arg());
            case "IFNOT" -> List.of((int) in.arg(), i + 1);
            case "RETURN" -> List.of();
            case "LOOP" -> List.of(in.arg() > 0 ? i + 1 : mate(b, i) + 1);
            default -> List.of(i + 1);
        };
    }

    private int[] takesAndGives(Body b, Instruction in) {
        return switch (in.name()) {
            case "PUSH", "LOAD" -> new int[] {0, 1};
            case "POP", "STORE", "IFNOT" -> new int[] {1, 0};
            case "DUP" -> new int[] {1, 2};
            case "SWAP" -> new int[] {2, 2};
            case "ADD", "SUB", "MUL", "LESS", "DIV" -> new int[] {2, 1};
            case "OVER" -> new int[] {(int) in.arg() + 1, (int) in.arg() + 2};
            case "CALL" -> new int[] {methods.get((int) in.arg()).arguments,
                methods.get((int) in.arg()).results};
            case "RETURN" -> new int[] {b.results, 0};
            default -> new int[] {0, 0};
        };
    }

    // ANALYSING

    private List<Integer> callees(int m) {
        List<Integer> all = new ArrayList<>();
        Body b = methods.get(m);
        Found f = found(b);
        for (int i = 0; i < b.code.size() && f.fault == 0; i++) {
            if (f.heights[i] != null && b.code.get(i).name().equals("CALL")) {
                all.add((int) b.code.get(i).arg());
            }
        }
        return all;
    }

    private void reach(int m, TreeSet<Integer> into) {
        if (into.add(m)) {
            for (int called : callees(m)) {
                reach(called, into);
            }
        }
    }

    private BigInteger stack(int m) {
        if (bounds[m][0] != null) {
            return bounds[m][0];
        }
        Body b = methods.get(m);
        Found f = found(b);
        BigInteger most = BigInteger.ZERO;
        for (int i = 0; i < b.code.size(); i++) {
            if (f.heights[i] != null) {
                int[] change = takesAndGives(b, b.code.get(i));
                int rest = b.locals + f.heights[i] - change[0];
                most = most.max(BigInteger.valueOf(rest + change[0]));
                most = most.max(BigInteger.valueOf(rest + change[1]));
                if (b.code.get(i).name().equals("CALL")) {
                    BigInteger called = stack((int) b.code.get(i).arg());
                    most = most.max(called.add(BigInteger.valueOf(rest + 2)));
                }
            }
        }
        bounds[m][0] = most;
        return most;
    }

    private BigInteger time(int m) {
        if (bounds[m][1] == null) {
            Body b = methods.get(m);
            bounds[m][1] = through(b, 0, b.code.size())[1];
        }
        return bounds[m][1];
    }

    /** The longest PATHS from one INSTRUCTION to another (null: none), and to a RETURN between. */
    private BigInteger[] through(Body b, int from, int to) {
        BigInteger[] best = new BigInteger[to + 1];
        BigInteger returned = null;
        best[from] = BigInteger.ZERO;
        for (int i = from; i < to; i++) {
            if (best[i] == null) {
                continue;
            }
            Instruction in = b.code.get(i);
            BigInteger now = best[i].add(BigInteger.valueOf(costs[in.operation()]));
            if (in.name().equals("RETURN")) {
                returned = greater(returned, now);
            } else if (in.name().equals("CALL")) {
                best[i + 1] = greater(best[i + 1], now.add(time((int) in.arg())));
            } else if (in.name().equals("LOOP") && in.arg() > 0) {
                int end = mate(b, i);
                BigInteger[] round = through(b, i + 1, end);
                BigInteger once = round[0] == null ? null
                        : round[0].add(BigInteger.valueOf(costs[15]));
                BigInteger n = BigInteger.valueOf(in.arg());
                if (once != null) {
                    best[end + 1] = greater(best[end + 1], now.add(once.multiply(n)));
                }
                if (round[1] != null) {
                    BigInteger earlier = once == null ? BigInteger.ZERO
                            : once.multiply(n.subtract(BigInteger.ONE));
                    returned = greater(returned, now.add(earlier).add(round[1]));
                }
            } else {
                for (int next : successors(b, i)) {
                    best[next] = greater(best[next], now);
                }
            }
        }
        return new BigInteger[] {best[to], returned};
    }

    private static BigInteger greater(BigInteger a, BigInteger b) {
        return a == null ? b : a.max(b);
    }

    /**
     * TIME by going along all PATHS, LOOPS unrolled: each place with how often every LOOP has still
     * to be done is one state. Null if there are too many states.
     */
    BigInteger timeUnrolled(int m) {
        Body b = methods.get(m);
        return new Unrolled(b).longest(0, new ArrayDeque<>(), 0);
    }

    private final class Unrolled {
        private final Body body;
        private final Map<String, BigInteger> known = new HashMap<>();

        Unrolled(Body body) {
            this.body = body;
        }

        BigInteger longest(int i, Deque<Long> left, int level) {
            String state = i + " " + left;
            if (known.containsKey(state)) {
                return known.get(state);
            }
            if (known.size() > 4000 || level > 600) {
                return null;
            }
            Instruction in = body.code.get(i);
            BigInteger own = BigInteger.valueOf(costs[in.operation()]);
            if (in.name().equals("CALL")) {
                own = own.add(time((int) in.arg()));
            }
            BigInteger rest = in.name().equals("RETURN") ? BigInteger.ZERO : null;
            Deque<Long> then = new ArrayDeque<>(left);
            List<Integer> nexts = successors(body, i);
            if (in.name().equals("LOOP") && in.arg() > 0) {
                then.push(in.arg());
            } else if (in.name().equals("END")) {
                long rounds = then.pop() - 1;
                if (rounds > 0) {
                    then.push(rounds);
                    nexts = List.of(mate(body, i) + 1);
                }
            }
            for (int next : nexts) {
                BigInteger behind = longest(next, then, level + 1);
                if (behind == null) {
                    return null;
                }
                rest = greater(rest, behind);
            }
            known.put(state, own.add(rest));
            return own.add(rest);
        }
    }

    // A RUN

    private final class Runner {
        private final int most;
        private long result;
        private long cycles;
        private long words;
        private long done;
        private long calls;

        Runner(int most) {
            this.most = most;
        }

        /** All METHODS that are being done, the first one at the end. */
        private final Deque<Frame> frames = new ArrayDeque<>();

        int run(Body first, List<Long> arguments) {
            if (found(first).fault != 0) {
                return 4;
            }
            boolean[] sound = new boolean[methods.size()];
            for (int m = 0; m < sound.length; m++) {
                sound[m] = found(methods.get(m)).fault == 0;
            }
            frames.push(new Frame(first, arguments));
            while (true) {
                count();
                if (done == most) {
                    return 2;
                }
                Frame f = frames.peek();
                Instruction in = f.body.code.get(f.next);
                if (in.name().equals("CALL") && !sound[(int) in.arg()]) {
                    return 4;
                }
                if (in.name().equals("CALL") && frames.size() == 100) {
                    return 3;
                }
                done++;
                cycles += costs[in.operation()];
                if (in.name().equals("CALL")) {
                    call(f, methods.get((int) in.arg()));
                } else if (!in.name().equals("RETURN")) {
                    f.act(in);
                } else {
                    frames.pop();
                    if (frames.isEmpty()) {
                        result = f.body.results == 1 ? f.stack.peek() : 0;
                        return 1;
                    }
                    if (f.body.results == 1) {
                        frames.peek().stack.push(f.stack.peek());
                    }
                }
            }
        }

        private void count() {
            long sum = 2L * (frames.size() - 1);
            for (Frame f : frames) {
                sum += f.locals.length + f.stack.size();
            }
            words = Math.max(words, sum);
        }

        private void call(Frame f, Body called) {
            calls++;
            f.next++;
            List<Long> arguments = new ArrayList<>();
            for (int k = 0; k < called.arguments; k++) {
                arguments.add(0, f.stack.pop());
            }
            frames.push(new Frame(called, arguments));
        }
    }

    private static final class Frame {
        private final Body body;
        private final long[] locals;
        private final Deque<Long> stack = new ArrayDeque<>();
        private final long[] left;
        private int next;

        Frame(Body body, List<Long> arguments) {
            this.body = body;
            locals = new long[body.locals];
            left = new long[body.code.size()];
            for (int k = 0; k < arguments.size(); k++) {
                locals[k] = arguments.get(k);
            }
        }

        void act(Instruction in) {
            int here = next;
            next++;
            switch (in.name()) {
                case "PUSH" -> stack.push(in.arg());
                case "POP" -> stack.pop();
                case "DUP" -> stack.push(stack.peek());
                case "LOAD" -> stack.push(locals[(int) in.arg()]);
                case "STORE" -> locals[(int) in.arg()] = stack.pop();
                case "OVER" -> stack.push(new ArrayList<>(stack).get((int) in.arg()));
                case "JUMP" -> next = (int) in.arg();
                case "IFNOT" -> next = stack.pop() == 0 ? (int) in.arg() : next;
                case "LOOP" -> {
                    left[here] = in.arg();
                    next = in.arg() == 0 ? mate(body, here) + 1 : next;
                }
                case "END" -> {
                    int loop = mate(body, here);
                    left[loop]--;
                    next = left[loop] > 0 ? loop + 1 : next;
                }
                default -> combine(in.name());
            }
        }

        private void combine(String name) {
            long top = stack.pop();
            long second = stack.pop();
            switch (name) {
                case "SWAP" -> {
                    stack.push(top);
                    stack.push(second);
                }
                case "ADD" -> stack.push(second + top);
                case "SUB" -> stack.push(second - top);
                case "MUL" -> stack.push(second * top);
                case "LESS" -> stack.push(second < top ? 1L : 0L);
                default -> stack.push(top == 0 ? 0 : second / top);
            }
        }
    }
}
