/** Promise 5: cost. */
public final class P05CostTest {
    private static final Due DUE = new Due();

    public static void main(String[] args) {
        atFirstOne();
        noSuchOperation();
        noSuchCost();
        firstOfBoth();
        everyOperationHasItsOwn();
        DUE.end();
    }

    private static void atFirstOne() {
        DUE.sentence("Each OPERATION has a COST, 0 .. 1000000 cycles, at first 1.");
        BoundCode x = new BoundCode();
        for (int operation = 0; operation <= 17; operation++) {
            DUE.is("cost(" + operation + ", 0) at first", x.cost(operation, 0), 1);
        }
        DUE.sentence("The COST of an OPERATION. Answers what it was.");
        for (int operation = 0; operation <= 17; operation++) {
            DUE.is("cost(" + operation + ", 1000000)", x.cost(operation, 1000000), 0);
        }
        for (int operation = 0; operation <= 17; operation++) {
            DUE.is("cost(" + operation + ", 5)", x.cost(operation, 5), 1000000);
            DUE.is("cost(" + operation + ", 6)", x.cost(operation, 6), 5);
        }
    }

    private static void noSuchOperation() {
        DUE.sentence("Answers what it was. IndexOutOfBoundsException: there is none such.");
        BoundCode x = new BoundCode();
        for (int operation : new int[] {-1, 18, 19, Integer.MIN_VALUE, Integer.MAX_VALUE}) {
            DUE.noMethod("cost(" + operation + ", 9)", () -> x.cost(operation, 9));
        }
        for (int operation = 0; operation <= 17; operation++) {
            DUE.is("cost(" + operation + ", 1) is as it was", x.cost(operation, 1), 1);
        }
    }

    private static void noSuchCost() {
        DUE.sentence("IllegalArgumentException: it is not 0 .. 1000000.");
        BoundCode x = new BoundCode();
        for (int operation : new int[] {0, 9, 17}) {
            for (int cycles : new int[] {-1, 1000001, Integer.MIN_VALUE, Integer.MAX_VALUE}) {
                DUE.badArgument("cost(" + operation + ", " + cycles + ")",
                        () -> x.cost(operation, cycles));
            }
            DUE.is("cost(" + operation + ", 0): it was as before", x.cost(operation, 0), 1);
            DUE.is("cost(" + operation + ", 1000000)", x.cost(operation, 1000000), 0);
            DUE.is("cost(" + operation + ", 1)", x.cost(operation, 1), 1000000);
        }
    }

    private static void firstOfBoth() {
        DUE.sentence("Methods throw what their comments name, the one named first when several "
                + "would do");
        BoundCode x = new BoundCode();
        DUE.noMethod("cost(18, -1)", () -> x.cost(18, -1));
        DUE.noMethod("cost(-1, 1000001)", () -> x.cost(-1, 1000001));
    }

    private static void everyOperationHasItsOwn() {
        DUE.sentence("The COST of an OPERATION.");
        BoundCode x = new BoundCode();
        for (int operation = 0; operation <= 17; operation++) {
            x.cost(operation, operation + 10);
        }
        Code.method(x, 1, 1, 2, "PUSH 6, DUP, SWAP, ADD, PUSH 5, SUB, PUSH 2, MUL, PUSH 3, DIV,"
                + "LOAD 0, LESS, STORE 1, LOAD 0, OVER 0, POP, LOOP 2, END, JUMP 19, IFNOT 20,"
                + "LOAD 1, CALL 1, RETURN");
        Code.method(x, 1, 1, 1, "LOAD 0, RETURN");
        int sum = 10 + 12 + 13 + 14 + 10 + 15 + 10 + 16 + 10 + 18 + 19 + 17 + 20 + 19 + 21 + 11
                + 24 + 25 + 25 + 22 + 23 + 19 + 26 + 19 + 27 + 27;
        DUE.is("analyse(0)", x.analyse(0), 0);
        DUE.is("TIME", x.bound(0, 1), sum);
        DUE.is("run", Code.run(x, 0, 1000, 9), 1);
        DUE.is("CYCLES", x.ran(1), sum);
        DUE.is("result", x.ran(0), 1);
        x.cost(0, 1000000);
        DUE.is("bound is of the COSTS then", x.bound(0, 1), sum);
        DUE.is("CYCLES are of the COSTS then", x.ran(1), sum);
        DUE.is("run with COSTS now", Code.run(x, 0, 1000, 9), 1);
        DUE.is("CYCLES with COSTS now", x.ran(1), sum + 4 * (1000000 - 10));
        x.analyse(0);
        DUE.is("TIME with COSTS now", x.bound(0, 1), sum + 4 * (1000000 - 10));
    }
}
