/** Every one of the 512 calls for which an object is used is answered as the first ones are. */
public final class CallsTest {
    private static final Due DUE = new Due();
    private static final int CALLS = 512;

    public static void main(String[] args) {
        DUE.sentence("An object is used for at most 512 calls after it has been made;");
        checks();
        analyses();
        runs();
        refusals();
        DUE.end();
    }

    /** The last call is the check of a METHOD that was changed by the one before. */
    private static void checks() {
        BoundCode x = new BoundCode();
        Code.plain(x, Code.times(119, "RETURN"));
        for (int calls = 120; calls < CALLS; calls += 2) {
            boolean faulty = calls % 4 == 0;
            x.change(0, 118, faulty ? 99 : 17, 0);
            DUE.is("check, call " + (calls + 2), x.check(0), faulty ? 1 : 0);
        }
    }

    /** All METHODS that there can be, with as many INSTRUCTIONS as there are calls for. */
    private static void analyses() {
        BoundCode x = new BoundCode();
        for (int m = 0; m < 31; m++) {
            Code.plain(x, "LOOP 2, PUSH 1, IFNOT 5, CALL " + (m + 1) + ", JUMP 5, END, RETURN");
        }
        Code.plain(x, "RETURN");
        int calls = 31 * 8 + 2;
        for (; calls < CALLS - 2; calls++) {
            DUE.is("analyse, call " + (calls + 1), x.analyse(calls % 32), 0);
        }
        DUE.is("analyse, call 511", x.analyse(0), 0);
        long time = 1;
        for (int m = 30; m >= 0; m--) {
            time = 1 + 2 * (2 + 1 + time + 1 + 1) + 1;
        }
        DUE.is("bound, call 512", x.bound(0, 1), time);
    }

    private static void runs() {
        BoundCode x = new BoundCode();
        Code.plain(x, "LOOP 1000000000, PUSH 1, POP, END, RETURN");
        for (int calls = 6; calls < CALLS - 1; calls++) {
            DUE.is("run, call " + (calls + 1), x.run(0, 100000), 2);
        }
        DUE.is("ran, call 512", x.ran(3), 100000);
    }

    private static void refusals() {
        BoundCode x = new BoundCode();
        for (int calls = 0; calls < CALLS - 1; calls++) {
            DUE.noMethod("check, call " + (calls + 1), () -> x.check(0));
        }
        DUE.is("method, call 512", x.method(0, 0, 0), 0);
    }
}
