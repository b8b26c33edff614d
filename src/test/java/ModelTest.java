import java.math.BigInteger;
import java.util.ArrayList;
import java.util.List;
import java.util.Random;

/** Long runs of calls, made by a seed, are answered alike by the class and by Model. */
public final class ModelTest {
    private static final Due DUE = new Due();
    private static final int OBJECTS = 1500;
    private static final int CALLS = 512;
    private static final int[] CHECKS = new int[10];
    private static final int[] ANALYSES = new int[4];
    private static final int[] RUNS = new int[5];
    private static int unrolled;

    private final Random random;
    private final BoundCode code = new BoundCode();
    private final Model model = new Model();
    private final StringBuilder told = new StringBuilder();
    private int calls;
    private int methods;

    private ModelTest(long seed) {
        random = new Random(seed);
    }

    public static void main(String[] args) {
        long first = args.length > 0 ? Long.parseLong(args[0]) : 1;
        for (long seed = first; seed < first + OBJECTS && DUE.isClean(); seed++) {
            ModelTest test = new ModelTest(seed);
            test.go();
            if (!DUE.isClean()) {
                System.out.println("seed " + seed + ": " + test.told);
            }
        }
        everyAnswerCame("check", CHECKS);
        everyAnswerCame("analyse", ANALYSES);
        everyAnswerCame("run", RUNS);
        System.out.println(unrolled + " TIMES compared with unrolled ones");
        DUE.end();
    }

    /** A test that no longer comes to an answer would say nothing of it. */
    private static void everyAnswerCame(String call, int[] amounts) {
        for (int k = call.equals("run") ? 1 : 0; k < amounts.length; k++) {
            System.out.println(call + " answered " + k + ": " + amounts[k] + " times");
            DUE.is(call + " comes to " + k, amounts[k] > 0 ? 1 : 0, 1);
        }
    }

    private void go() {
        int many = 1 + random.nextInt(random.nextInt(8) == 0 ? 34 : 6);
        for (int m = 0; m < many; m++) {
            newMethod();
        }
        boolean wild = random.nextInt(8) == 0;
        for (int m = 0; m < methods && calls < CALLS * 3 / 4; m++) {
            if (wild) {
                writeAnything(m);
            } else {
                new Writer(m).write(CALLS * 3 / 4 / methods);
            }
        }
        for (int m = 0; m < methods && calls < CALLS * 7 / 8; m++) {
            ask(m);
        }
        while (calls < CALLS && DUE.isClean()) {
            anyCall();
        }
    }

    private void newMethod() {
        int arguments = random.nextInt(random.nextInt(6) == 0 ? 10 : 4);
        int results = random.nextInt(random.nextInt(20) == 0 ? 3 : 2);
        int locals = arguments + random.nextInt(3) - (random.nextInt(30) == 0 ? 1 : 0);
        if (same("method " + arguments + " " + results + " " + locals,
                () -> code.method(arguments, results, locals),
                () -> model.method(arguments, results, locals)) >= 0) {
            methods++;
        }
    }

    private void writeAnything(int m) {
        int size = random.nextInt(40);
        for (int i = 0; i < size; i++) {
            add(m, anyOperation(), anyArg(i));
        }
    }

    private int anyOperation() {
        return random.nextInt(40) == 0 ? random.nextInt(40) - 20 : random.nextInt(18);
    }

    private long anyArg(int i) {
        return switch (random.nextInt(8)) {
            case 0 -> i + 1 + random.nextInt(6);
            case 1 -> random.nextInt(6);
            case 2 -> random.nextInt(30) == 0 ? random.nextLong() : random.nextInt(3);
            default -> 0;
        };
    }

    private void add(int m, int operation, long arg) {
        same("add " + m + " " + name(operation) + " " + arg, () -> code.add(m, operation, arg),
                () -> model.add(m, operation, arg));
    }

    private static String name(int operation) {
        return operation >= 0 && operation < 18 ? Code.NAMES.get(operation) : "" + operation;
    }

    private void ask(int m) {
        long checked = same("check " + m, () -> code.check(m), () -> model.check(m));
        CHECKS[(int) checked]++;
        same("place", code::place, model::place);
        long analysed = same("analyse " + m, () -> code.analyse(m), () -> model.analyse(m));
        ANALYSES[(int) analysed]++;
        bounds(m);
        if (checked == 0 && (analysed == 0 || analysed == 3)) {
            unroll(m);
        }
        run(m);
    }

    private void bounds(int m) {
        for (int what = 0; what < 2; what++) {
            int w = what;
            same("bound " + m + " " + w, () -> code.bound(m, w), () -> model.bound(m, w));
        }
    }

    private void unroll(int m) {
        BigInteger time = model.timeUnrolled(m);
        if (time != null) {
            unrolled++;
            long want = time.bitLength() > 63 ? -1 : time.longValueExact();
            DUE.is("TIME of " + m + " unrolled", model.bound(m, 1), want);
        }
    }

    private void run(int m) {
        int wanted = model.about(m, 0);
        for (int k = 0; k < wanted; k++) {
            long word = random.nextInt(3) == 0 ? random.nextLong() : random.nextInt(4) - 1;
            same("argument " + word, () -> code.argument(word), () -> model.argument(word));
        }
        int most = random.nextInt(6) == 0 ? random.nextInt(60) : 20000;
        long end = same("run " + m + " " + most, () -> code.run(m, most),
                () -> model.run(m, most));
        if (end > 0) {
            RUNS[(int) end]++;
        }
        for (int what = 0; what < 5; what++) {
            int w = what;
            same("ran " + w, () -> code.ran(w), () -> model.ran(w));
        }
        if (end == 1) {
            within(m);
        }
    }

    /** No RUN needs more than the bounds tell, if there are any. */
    private void within(int m) {
        Due.Call again = () -> model.analyse(m);
        if (same("analyse " + m, () -> code.analyse(m), again) == 0) {
            DUE.is("WORDS are at most STACK", code.ran(2) <= code.bound(m, 0) ? 1 : 0, 1);
            DUE.is("CYCLES are at most TIME", code.ran(1) <= code.bound(m, 1) ? 1 : 0, 1);
        }
    }

    private void anyCall() {
        int m = random.nextInt(methods + 1) - (random.nextInt(20) == 0 ? 1 : 0);
        int i = random.nextInt(40) - 1;
        int what = random.nextInt(6) - 1;
        switch (random.nextInt(12)) {
            case 0 -> same("height " + m + " " + i, () -> code.height(m, i),
                    () -> model.height(m, i));
            case 1 -> same("told " + m + " " + what, () -> code.told(m, what),
                    () -> model.told(m, what));
            case 2 -> same("bound " + m + " " + what, () -> code.bound(m, what),
                    () -> model.bound(m, what));
            case 3 -> same("about " + m + " " + what, () -> code.about(m, what),
                    () -> model.about(m, what));
            case 4 -> change(m, i);
            case 5 -> cost(random.nextInt(20) - 1);
            case 6 -> same("argument " + i, () -> code.argument(i), () -> model.argument(i));
            case 7 -> same("run " + m + " " + i, () -> code.run(m, i), () -> model.run(m, i));
            case 8 -> same("place", code::place, model::place);
            case 9 -> same("analyse " + m, () -> code.analyse(m), () -> model.analyse(m));
            case 10 -> {
                if (random.nextInt(6) == 0) {
                    newMethod();
                } else {
                    add(m, anyOperation(), anyArg(i));
                }
            }
            default -> {
                if (m >= 0 && m < methods) {
                    ask(m);
                }
            }
        }
    }

    private void change(int m, int i) {
        int operation = anyOperation();
        long arg = anyArg(i);
        same("change " + m + " " + i + " " + name(operation) + " " + arg,
                () -> code.change(m, i, operation, arg),
                () -> model.change(m, i, operation, arg));
    }

    private void cost(int operation) {
        int cycles = random.nextInt(3) == 0 ? random.nextInt(1000003) - 1 : random.nextInt(5);
        same("cost " + operation + " " + cycles, () -> code.cost(operation, cycles),
                () -> model.cost(operation, cycles));
    }

    /** The answer of both, or -2 when both threw. */
    private long same(String call, Due.Call ofCode, Due.Call ofModel) {
        calls++;
        String got = Due.outcome(ofCode);
        String want = Due.outcome(ofModel);
        told.append(call).append(" = ").append(got).append("; ");
        DUE.is(call + ": " + got + ", due is " + want, got.equals(want) ? 1 : 0, 1);
        return want.contains("Exception") ? -2 : Long.parseLong(want);
    }

    /** Writes METHODS that mostly have no FAULT: it keeps to the HEIGHTS while it writes. */
    private final class Writer {
        private final int method;
        private final int results;
        private final int locals;
        private final List<int[]> written = new ArrayList<>();

        Writer(int method) {
            this.method = method;
            results = model.about(method, 1);
            locals = model.about(method, 2);
        }

        void write(int size) {
            int high = random.nextInt(60) == 0 ? 95 + random.nextInt(7) : 0;
            level(0, high);
            int behind = block(high, 0, Math.min(100, 4 + random.nextInt(Math.max(1, size - 4))));
            leave(behind);
            if (random.nextInt(10) == 0) {
                written.get(random.nextInt(written.size()))[1] += random.nextInt(3) - 1;
            }
            for (int[] in : written) {
                add(method, in[0], in[1]);
            }
        }

        private void put(int operation, int arg) {
            written.add(new int[] {operation, arg});
        }

        /** Answers the HEIGHT behind the block. */
        private int block(int from, int depth, int size) {
            int height = from;
            int end = Math.min(112, written.size() + size);
            while (written.size() < end) {
                int kind = random.nextInt(12);
                if (kind < 2 && depth < 4 && end - written.size() > 4) {
                    loop(height, depth, end - written.size() - 2);
                } else if (kind == 2 && end - written.size() > 6) {
                    choice(height, depth, end - written.size() - 4);
                } else if (kind == 3 && random.nextInt(4) == 0) {
                    mayLeave(height);
                } else {
                    height = single(height);
                }
            }
            return height;
        }

        private void level(int from, int to) {
            int height = from;
            for (; height > to; height--) {
                put(1, 0);
            }
            for (; height < to; height++) {
                put(0, random.nextInt(9) - 4);
            }
        }

        private void loop(int height, int depth, int size) {
            int n = switch (random.nextInt(8)) {
                case 0 -> 0;
                case 1 -> random.nextInt(1000000001);
                default -> 1 + random.nextInt(3);
            };
            put(14, n);
            int behind = block(height, depth + 1, 1 + random.nextInt(Math.max(1, size)));
            if (random.nextInt(12) == 0) {
                leave(behind);
            } else {
                level(behind, height);
            }
            put(15, 0);
        }

        private void choice(int height, int depth, int size) {
            put(9 - 9 * (locals == 0 ? 1 : 0), locals == 0 ? random.nextInt(2) : 0);
            int[] decide = {13, 0};
            written.add(decide);
            int one = block(height, depth, 1 + random.nextInt(Math.max(1, size / 2)));
            level(one, height);
            boolean leaves = random.nextInt(4) == 0;
            int[] skip = {12, 0};
            if (leaves) {
                leave(height);
            } else {
                written.add(skip);
            }
            decide[1] = written.size();
            int other = block(height, depth, 1 + random.nextInt(Math.max(1, size / 2)));
            level(other, height);
            skip[1] = written.size();
        }

        private void mayLeave(int height) {
            put(0, random.nextInt(3));
            int[] decide = {13, 0};
            written.add(decide);
            leave(height);
            decide[1] = written.size();
        }

        private void leave(int height) {
            level(height, results);
            put(17, 0);
        }

        private int single(int height) {
            int kind = random.nextInt(10);
            if (kind == 0 && height >= 2) {
                put(4 + random.nextInt(5), 0);
                return height - 1;
            }
            if (kind == 1 && height >= 2) {
                put(3, 0);
                return height;
            }
            if (kind == 2 && height >= 1) {
                put(11, random.nextInt(height));
                return height + 1;
            }
            if (kind == 3 && height >= 1) {
                put(2, 0);
                return height + 1;
            }
            if (kind == 4 && height >= 1 && locals > 0) {
                put(10, random.nextInt(locals));
                return height - 1;
            }
            if (kind == 5 && locals > 0) {
                put(9, random.nextInt(locals));
                return height + 1;
            }
            if (kind == 6 && height >= 1) {
                put(1, 0);
                return height - 1;
            }
            return kind == 7 || kind == 8 ? call(height) : push(height);
        }

        private int push(int height) {
            put(0, random.nextInt(7) - 2);
            return height + 1;
        }

        /** Mostly of a METHOD with a greater number, so that cycles are seldom. */
        private int call(int height) {
            int called = random.nextInt(12) == 0 ? random.nextInt(methods)
                    : method + 1 + random.nextInt(Math.max(1, methods - method - 1));
            if (called >= methods || model.about(called, 0) > height) {
                return push(height);
            }
            put(16, called);
            return height - model.about(called, 0) + model.about(called, 1);
        }
    }
}
