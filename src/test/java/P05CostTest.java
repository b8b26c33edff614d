/** Promise 5: cost. */
public final class P05CostTest {
    public static void main(String[] args) {
        Due due = new Due();
        BoundCode x = new BoundCode();
        due.noMethod("cost(-1, 1)", () -> x.cost(-1, 1));
        due.noMethod("cost(18, 1)", () -> x.cost(18, 1));
        due.noMethod("cost(18, -1): the first of both", () -> x.cost(18, -1));
        due.badArgument("cost(0, -1)", () -> x.cost(0, -1));
        due.badArgument("cost(17, 1000001)", () -> x.cost(17, 1000001));
        due.badArgument("cost(3, MIN)", () -> x.cost(3, Integer.MIN_VALUE));
        for (int operation = 0; operation <= 17; operation++) {
            due.is("cost(" + operation + ", 1000000)", x.cost(operation, 1000000), 1);
            due.is("cost(" + operation + ", 0)", x.cost(operation, 0), 1000000);
            due.is("cost(" + operation + ", ..)", x.cost(operation, operation + 10), 0);
        }
        everyOperationHasItsOwn(due, x);
        due.end();
    }

    private static void everyOperationHasItsOwn(Due due, BoundCode x) {
        Code.method(x, 1, 1, 2, "PUSH 6, DUP, SWAP, ADD, PUSH 5, SUB, PUSH 2, MUL, PUSH 3, DIV,"
                + "LOAD 0, LESS, STORE 1, LOAD 0, OVER 0, POP, LOOP 2, END, JUMP 19, IFNOT 20,"
                + "LOAD 1, CALL 1, RETURN");
        Code.method(x, 1, 1, 1, "LOAD 0, RETURN");
        int sum = 10 + 12 + 13 + 14 + 10 + 15 + 10 + 16 + 10 + 18 + 19 + 17 + 20 + 19 + 21 + 11
                + 24 + 25 + 25 + 22 + 23 + 19 + 26 + 19 + 27 + 27;
        due.is("analyse(0)", x.analyse(0), 0);
        due.is("TIME", x.bound(0, 1), sum);
        due.is("run", Code.run(x, 0, 1000, 9), 1);
        due.is("CYCLES", x.ran(1), sum);
        due.is("result", x.ran(0), 1);
        x.cost(0, 1000000);
        due.is("bound is of the COSTS then", x.bound(0, 1), sum);
        due.is("run with COSTS now", Code.run(x, 0, 1000, 9), 1);
        due.is("CYCLES with COSTS now", x.ran(1), sum + 4 * (1000000 - 10));
    }
}
