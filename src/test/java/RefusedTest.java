import java.util.ArrayList;
import java.util.List;

/**
 * A call that throws, or answers NONE, changes nothing: two objects are made alike, one of them is
 * asked what is refused, and then both are asked all that an object can tell.
 */
public final class RefusedTest {
    /** Makes an object that stands in some state. */
    private interface State {
        BoundCode make();
    }

    private interface Refused {
        long ask(BoundCode x);
    }

    private static final int MIN = Integer.MIN_VALUE;
    private static final int MAX = Integer.MAX_VALUE;
    /** How many METHODS the state has that all others grow from. */
    private static final int KNOWN = 6;
    private static final int[] FAR = {-1, 32, MIN, MAX};
    private static final Due DUE = new Due();

    private final List<String> told = new ArrayList<>();
    private final BoundCode asked;

    private RefusedTest(BoundCode asked) {
        this.asked = asked;
    }

    public static void main(String[] args) {
        DUE.sentence("a call that throws, or answers NONE, changes nothing.");
        for (State state : new State[] {BoundCode::new, RefusedTest::used,
            RefusedTest::fullOfMethods, RefusedTest::fullOfInstructions,
            RefusedTest::fullOfWords}) {
            throwing(state);
        }
        full();
        answeringNone();
        DUE.end();
    }

    /** METHODS sound, with a FAULT, circular and empty; checked, analysed, run, with two words. */
    private static BoundCode used() {
        BoundCode x = new BoundCode();
        Code.method(x, 1, 1, 2, "LOAD 0, PUSH 3, CALL 1, RETURN");
        Code.method(x, 2, 1, 2, "LOAD 0, LOAD 1, LOOP 2, PUSH 1, ADD, END, SUB, RETURN");
        Code.plain(x, "PUSH 1, POP, POP, RETURN");
        Code.plain(x, "CALL 3, RETURN");
        x.method(0, 0, 0);
        Code.method(x, 8, 1, 8, "LOAD 0, LOAD 7, SUB, PUSH 10, MUL, LOAD 2, ADD, RETURN");
        x.cost(0, 7);
        x.cost(17, 3);
        x.check(2);
        x.analyse(0);
        Code.run(x, 0, 100, 5);
        x.argument(11);
        x.argument(12);
        return x;
    }

    private static BoundCode fullOfMethods() {
        BoundCode x = used();
        for (int m = KNOWN; m < 32; m++) {
            x.method(0, 0, 0);
        }
        return x;
    }

    private static BoundCode fullOfInstructions() {
        BoundCode x = used();
        Code.append(x, 1, Code.times(112, "RETURN"));
        return x;
    }

    private static BoundCode fullOfWords() {
        BoundCode x = used();
        for (int k = 0; k < 6; k++) {
            x.argument(k);
        }
        return x;
    }

    private static void throwing(State state) {
        int methods = methodsOf(state.make());
        for (int m : new int[] {-1, methods, MIN, MAX}) {
            refused(state, "add", x -> x.add(m, 17, 0));
            refused(state, "change", x -> x.change(m, 0, 17, 0));
            refused(state, "check", x -> x.check(m));
            refused(state, "height", x -> x.height(m, 0));
            refused(state, "analyse", x -> x.analyse(m));
            refused(state, "told", x -> x.told(m, 0));
            refused(state, "bound", x -> x.bound(m, 0));
            refused(state, "run", x -> x.run(m, 10));
            refused(state, "about", x -> x.about(m, 0));
        }
        for (int wrong : FAR) {
            refused(state, "method, ARGUMENTS", x -> x.method(wrong, 0, 16));
            refused(state, "method, RESULTS", x -> x.method(0, wrong, 0));
            refused(state, "method, LOCALS", x -> x.method(0, 0, wrong));
            refused(state, "cost, OPERATION", x -> x.cost(wrong, 9));
            refused(state, "ran", x -> x.ran(wrong));
        }
        for (int cycles : new int[] {-1, 1000001, MIN, MAX}) {
            refused(state, "cost, cycles", x -> x.cost(17, cycles));
        }
        for (int m = 0; m < Math.min(methods, KNOWN); m++) {
            throwingOf(state, m);
        }
    }

    private static void throwingOf(State state, int m) {
        int size = state.make().about(m, 3);
        for (int i : new int[] {-1, size, MIN, MAX}) {
            refused(state, "change, i", x -> x.change(m, i, 99, 5));
            refused(state, "height, i", x -> x.height(m, i));
        }
        for (int what : new int[] {-1, 5, MIN, MAX}) {
            refused(state, "told, what", x -> x.told(m, what));
            refused(state, "bound, what", x -> x.bound(m, what));
            refused(state, "about, what", x -> x.about(m, what));
        }
        for (int most : new int[] {-1, 100001, MIN, MAX}) {
            refused(state, "run, most", x -> x.run(m, most));
        }
        if (m != 1 && m != 5) {
            refused(state, "run, words", x -> x.run(m, 10));
        }
    }

    private static void full() {
        none(RefusedTest::fullOfMethods, "method, full", x -> x.method(0, 0, 0));
        none(RefusedTest::fullOfMethods, "method, full", x -> x.method(8, 1, 16));
        none(RefusedTest::fullOfInstructions, "add, full", x -> x.add(1, 17, 0));
        none(RefusedTest::fullOfInstructions, "add, full", x -> x.add(1, 99, 5));
        refused(RefusedTest::fullOfWords, "argument, full", x -> x.argument(77));
    }

    private static void answeringNone() {
        none(BoundCode::new, "place before a check", BoundCode::place);
        none(RefusedTest::used, "height of a FAULT", x -> x.height(2, 0));
        none(RefusedTest::used, "bound of one not REACHED", x -> x.bound(3, 0));
        none(RefusedTest::used, "bound of one not REACHED", x -> x.bound(2, 1));
        none(RefusedTest::fullOfInstructions, "height of one not MET", x -> x.height(1, 119));
    }

    private static void refused(State state, String call, Refused made) {
        BoundCode x = state.make();
        String got = Due.outcome(() -> made.ask(x));
        DUE.is(call + " throws", got.startsWith("java.lang.I") ? 1 : 0, 1);
        compare(state, call, x);
    }

    private static void none(State state, String call, Refused made) {
        BoundCode x = state.make();
        DUE.is(call, made.ask(x), BoundCode.NONE);
        compare(state, call, x);
    }

    private static void compare(State state, String call, BoundCode x) {
        List<String> due = new RefusedTest(state.make()).askAll();
        List<String> got = new RefusedTest(x).askAll();
        for (int k = 0; k < due.size(); k++) {
            DUE.alike(call + ", then call " + k, got.get(k), due.get(k));
        }
    }

    private static int methodsOf(BoundCode x) {
        int count = 0;
        for (int m = 0; m < 32; m++) {
            int method = m;
            if (Due.outcome(() -> x.about(method, 0)).contains("Exception")) {
                return count;
            }
            count++;
        }
        return count;
    }

    private void ask(Due.Call call) {
        told.add(Due.outcome(call));
    }

    /** First what only tells, then what also changes. */
    private List<String> askAll() {
        ask(asked::place);
        askRan();
        askTold();
        for (int m = 0; m < KNOWN; m++) {
            int method = m;
            for (int what = 0; what < 4; what++) {
                int w = what;
                ask(() -> asked.about(method, w));
            }
            for (int i = 0; i < 9; i++) {
                int at = i;
                ask(() -> asked.height(method, at));
            }
        }
        ask(() -> asked.run(5, 100));
        ask(() -> asked.run(1, 100));
        askRan();
        ask(() -> asked.argument(4));
        ask(() -> asked.run(0, 100));
        askRan();
        for (int m = 0; m < KNOWN; m++) {
            int method = m;
            ask(() -> asked.check(method));
            ask(asked::place);
        }
        ask(() -> asked.analyse(1));
        askTold();
        askByChanging();
        return told;
    }

    private void askRan() {
        for (int what = 0; what < 5; what++) {
            int w = what;
            ask(() -> asked.ran(w));
        }
    }

    private void askTold() {
        for (int m = 0; m <= KNOWN; m++) {
            int method = m;
            for (int what = 0; what < 3; what++) {
                int w = what;
                ask(() -> asked.told(method, w));
            }
            ask(() -> asked.bound(method, 0));
            ask(() -> asked.bound(method, 1));
        }
    }

    private void askByChanging() {
        for (int operation = 0; operation < 18; operation++) {
            int o = operation;
            ask(() -> asked.cost(o, 5));
        }
        for (int m = 0; m < KNOWN; m++) {
            int method = m;
            for (int i = 0; i < 9; i++) {
                int at = i;
                ask(() -> asked.change(method, at, 17, 0));
            }
            ask(() -> asked.add(method, 17, 0));
        }
        ask(() -> asked.method(0, 0, 0));
    }
}
