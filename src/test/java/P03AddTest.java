/** Promise 3: add. */
public final class P03AddTest {
    private static final Due DUE = new Due();
    private static final int[] FAR = {Integer.MIN_VALUE, Integer.MAX_VALUE, 32, 120};

    public static void main(String[] args) {
        comesBehind();
        atMostHundredAndTwenty();
        noSuchMethod();
        anyOperation();
        DUE.end();
    }

    private static void comesBehind() {
        DUE.sentence("An INSTRUCTION comes behind those of a METHOD.");
        BoundCode x = new BoundCode();
        x.method(0, 1, 0);
        x.method(0, 1, 0);
        DUE.is("the first of 0", x.add(0, 0, 5), 0);
        DUE.is("the first of 1: numbers are of each METHOD", x.add(1, 0, 6), 0);
        DUE.is("check without RETURN", x.check(0), 9);
        DUE.is("the second of 0", x.add(0, 17, 0), 1);
        DUE.is("check with RETURN", x.check(0), 0);
        DUE.is("run", x.run(0, 9), 1);
        DUE.is("its result", x.ran(0), 5);
        DUE.is("INSTRUCTIONS of 0", x.about(0, 3), 2);
        DUE.is("INSTRUCTIONS of 1", x.about(1, 3), 1);
        x.add(0, 99, 0);
        DUE.is("check sees the new one", x.check(0), 1);
        DUE.is("place of the new one", x.place(), 2);
    }

    private static void atMostHundredAndTwenty() {
        DUE.sentence("INSTRUCTIONS (at most 120), with numbers from 0 on.");
        BoundCode x = new BoundCode();
        x.method(0, 0, 0);
        x.method(0, 0, 0);
        for (int i = 0; i < 119; i++) {
            DUE.is("add number " + i, x.add(0, 14 + i % 2, 0), i);
        }
        DUE.sentence("Answers its number; NONE when there are 120.");
        DUE.is("one LOOP has no END yet", x.check(0), 2);
        DUE.is("the 120th", x.change(0, 118, 17, 0), 14);
        DUE.is("the 120th", x.add(0, 17, 0), 119);
        DUE.is("check of 120", x.check(0), 0);
        DUE.is("the 121st", x.add(0, 99, 7), BoundCode.NONE);
        DUE.is("and again", x.add(0, 0, 0), BoundCode.NONE);
        DUE.is("INSTRUCTIONS when full", x.about(0, 3), 120);
        DUE.is("check when full", x.check(0), 0);
        DUE.noMethod("height(0, 120)", () -> x.height(0, 120));
        DUE.is("the last one is as it was", x.change(0, 119, 17, 0), 17);
        DUE.is("the first one is as it was", x.change(0, 0, 14, 0), 14);
        DUE.is("add to the other one", x.add(1, 17, 0), 0);
    }

    private static void noSuchMethod() {
        DUE.sentence("IndexOutOfBoundsException: there is no such METHOD.");
        BoundCode x = new BoundCode();
        DUE.noMethod("add(0, 0, 0) of none", () -> x.add(0, 0, 0));
        for (int count = 1; count <= 32; count++) {
            int behind = x.method(0, 0, 0) + 1;
            DUE.is("add to the last of " + count, x.add(count - 1, 0, 0), 0);
            DUE.noMethod("add(" + behind + ", 0, 0)", () -> x.add(behind, 0, 0));
            DUE.noMethod("add(-1, 0, 0)", () -> x.add(-1, 0, 0));
        }
        for (int m : FAR) {
            DUE.noMethod("add(" + m + ", 0, 0)", () -> x.add(m, 0, 0));
        }
        for (int m = 0; m < 32; m++) {
            DUE.is("INSTRUCTIONS of " + m, x.about(m, 3), 1);
        }
    }

    /** What is wrong with them is told by check(), not by add(). */
    private static void anyOperation() {
        DUE.sentence("An INSTRUCTION comes behind those of a METHOD.");
        BoundCode x = new BoundCode();
        x.method(0, 0, 0);
        int[] operations = {-1, 18, Integer.MIN_VALUE, Integer.MAX_VALUE, 0, 17};
        long[] args = {Long.MIN_VALUE, Long.MAX_VALUE, -1, 0, 1L << 32, 5};
        for (int k = 0; k < operations.length; k++) {
            DUE.is("add(0, " + operations[k] + ", " + args[k] + ")",
                    x.add(0, operations[k], args[k]), k);
        }
        for (int k = 0; k < operations.length; k++) {
            DUE.is("OPERATION " + k, x.change(0, k, 1, 0), operations[k]);
        }
    }
}
