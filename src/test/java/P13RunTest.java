/** Promise 13: run. */
public final class P13RunTest {
    private static final Due DUE = new Due();

    public static void main(String[] args) {
        wrong();
        operations();
        flow();
        leftovers();
        limits();
        faults();
        depth();
        DUE.end();
    }

    private static void wrong() {
        BoundCode x = new BoundCode();
        Code.method(x, 1, 1, 1, "LOAD 0, RETURN");
        DUE.noMethod("run(1, 5)", () -> x.run(1, 5));
        DUE.noMethod("run(-1, -1): the first of both", () -> x.run(-1, -1));
        DUE.badArgument("run without its word", () -> x.run(0, 5));
        x.argument(4);
        DUE.badArgument("run(0, -1)", () -> x.run(0, -1));
        DUE.badArgument("run(0, 100001)", () -> x.run(0, 100001));
        DUE.is("run(0, 100000): the word stayed", x.run(0, 100000), 1);
        DUE.is("its result", x.ran(0), 4);
        x.argument(5);
        x.argument(6);
        DUE.badArgument("run with a word too many", () -> x.run(0, 5));
        DUE.is("the words stayed", x.argument(7), 3);
        DUE.is("ran is of the last that did not throw", x.ran(0), 4);
    }

    private static void result(String lines, long due, long... words) {
        BoundCode x = new BoundCode();
        Code.method(x, words.length, 1, 16, lines);
        DUE.is(lines + ": run", Code.run(x, 0, 100000, words), 1);
        DUE.is(lines + ": result", x.ran(0), due);
    }

    private static void operations() {
        result("PUSH -9223372036854775808, RETURN", Long.MIN_VALUE);
        result("PUSH 1, PUSH 2, POP, RETURN", 1);
        result("PUSH 7, PUSH 3, SWAP, SUB, RETURN", -4);
        result("PUSH 3, DUP, MUL, RETURN", 9);
        result("LOAD 0, LOAD 1, ADD, RETURN", Long.MIN_VALUE, Long.MAX_VALUE, 1);
        result("LOAD 0, LOAD 1, SUB, RETURN", Long.MAX_VALUE, Long.MIN_VALUE, 1);
        result("LOAD 0, LOAD 1, MUL, RETURN", -2, Long.MAX_VALUE, 2);
        result("LOAD 0, LOAD 1, LESS, RETURN", 1, Long.MIN_VALUE, Long.MAX_VALUE);
        result("LOAD 0, LOAD 1, LESS, RETURN", 0, 4, 4);
        result("LOAD 0, LOAD 1, LESS, RETURN", 0, 5, 4);
        result("LOAD 0, LOAD 1, DIV, RETURN", 0, 5, 0);
        result("LOAD 0, LOAD 1, DIV, RETURN", -3, -7, 2);
        result("LOAD 0, LOAD 1, DIV, RETURN", Long.MIN_VALUE, Long.MIN_VALUE, -1);
        result("LOAD 15, RETURN", 0, 1, 2);
        result("PUSH 8, STORE 15, LOAD 15, RETURN", 8);
        result("PUSH 8, STORE 0, LOAD 0, RETURN", 8, 3);
        result("PUSH 4, PUSH 5, PUSH 6, OVER 2, STORE 0, POP, POP, POP, LOAD 0, RETURN", 4);
        result("PUSH 4, PUSH 5, OVER 0, ADD, ADD, RETURN", 14);
    }

    private static void flow() {
        result("JUMP 3, PUSH 1, RETURN, PUSH 2, RETURN", 2);
        result("LOAD 0, IFNOT 4, PUSH 1, RETURN, PUSH 2, RETURN", 2, 0);
        result("LOAD 0, IFNOT 4, PUSH 1, RETURN, PUSH 2, RETURN", 1, -1);
        result("LOOP 5, LOAD 0, PUSH 1, ADD, STORE 0, END, LOAD 0, RETURN", 8, 3);
        result("LOOP 0, PUSH 1, STORE 0, END, LOAD 0, RETURN", 3, 3);
        result("LOOP 1, LOAD 0, PUSH 1, ADD, STORE 0, END, LOAD 0, RETURN", 4, 3);
        result("LOOP 3, LOOP 4, LOAD 0, PUSH 1, ADD, STORE 0, END, END, LOAD 0, RETURN", 12, 0);
        result("LOOP 9, LOAD 0, PUSH 1, ADD, STORE 0, LOAD 0, PUSH 4, LESS, IFNOT 10, JUMP 12,"
                + "LOAD 0, RETURN, END, PUSH 77, RETURN", 4, 0);
        result("LOOP 2, LOAD 0, IFNOT 5, PUSH 0, STORE 0, LOOP 2, LOAD 1, PUSH 1, ADD, STORE 1,"
                + "END, END, LOAD 1, RETURN", 4, 1, 0);
        BoundCode x = new BoundCode();
        Code.method(x, 2, 1, 3, "LOAD 0, LOAD 1, SUB, LOAD 2, ADD, PUSH 9, STORE 2, RETURN");
        Code.method(x, 0, 1, 1, "PUSH 100, PUSH 30, PUSH 4, CALL 0, CALL 0, STORE 0,"
                + "LOOP 3, LOAD 0, PUSH 1, CALL 2, STORE 0, END, LOAD 0, RETURN");
        Code.method(x, 2, 1, 2, "LOOP 7, LOAD 0, LOAD 1, ADD, RETURN, END, RETURN");
        DUE.is("run of CALLS", Code.run(x, 1, 1000), 1);
        DUE.is("their result; LOCALS are 0 anew, LOOPS of the caller stay", x.ran(0), 77);
    }

    /** RUNS that stop in their LOOPS, or give nothing back, leave nothing behind. */
    private static void leftovers() {
        BoundCode x = new BoundCode();
        Code.plain(x, Code.times(8, "LOOP 2") + "," + Code.times(8, "END") + ", RETURN");
        for (int k = 0; k < 120; k++) {
            x.run(0, 8);
        }
        DUE.is("run behind 120 that stopped", x.run(0, 2000), 1);
        DUE.is("what it did", x.ran(3), 255 + 510 + 1);
        Code.method(x, 0, 1, 0, "PUSH 5, CALL 2, RETURN");
        Code.plain(x, "RETURN");
        DUE.is("run of a CALL that gives nothing", x.run(1, 10), 1);
        DUE.is("its result", x.ran(0), 5);
        DUE.is("its WORDS", x.ran(2), 3);
    }

    private static void limits() {
        BoundCode x = new BoundCode();
        Code.plain(x, "PUSH 1, POP, RETURN");
        DUE.is("most = 0", x.run(0, 0), 2);
        DUE.is("none done", x.ran(3), 0);
        DUE.is("most = 2", x.run(0, 2), 2);
        DUE.is("two done", x.ran(3), 2);
        DUE.is("most = 3: just enough", x.run(0, 3), 1);
        Code.plain(x, "LOOP 1000000000, END, RETURN");
        DUE.is("a long LOOP", x.run(1, 100000), 2);
        DUE.is("as many as it may", x.ran(3), 100000);
        Code.method(x, 1, 0, 1, "RETURN");
        DUE.is("most = 0 with a word", Code.run(x, 2, 0, 5), 2);
        DUE.is("the word is used up", x.argument(1), 1);
    }

    private static void faults() {
        BoundCode x = new BoundCode();
        Code.plain(x, "PUSH 1, POP, CALL 1, RETURN");
        Code.method(x, 0, 0, 3, "POP");
        DUE.is("the first one with a FAULT", x.run(1, 5), 4);
        DUE.is("the first one with a FAULT is not begun", x.run(1, 0), 4);
        DUE.is("so it has no WORDS", x.ran(2), 0);
        DUE.is("a CALL of one with a FAULT", x.run(0, 5), 4);
        DUE.is("the CALL was not done", x.ran(3), 2);
        DUE.is("its COST is not counted", x.ran(1), 2);
        DUE.is("nor is it", x.ran(4), 0);
        DUE.is("2 before 4", x.run(0, 2), 2);
        x.change(1, 0, 17, 0);
        DUE.is("without the FAULT", x.run(0, 5), 1);
        Code.method(x, 1, 1, 1, "POP");
        DUE.is("a FAULT", Code.run(x, 2, 5, 3), 4);
        DUE.is("the words are used up all the same", x.argument(1), 1);
        BoundCode y = new BoundCode();
        Code.plain(y, "PUSH 0, IFNOT 3, CALL 1, RETURN");
        Code.plain(y, "POP");
        DUE.is("one that is not come to", y.run(0, 9), 1);
    }

    /** METHOD 0 takes how deep to go, and CALLS itself, or at 0 METHOD 1. */
    private static void depth() {
        BoundCode x = new BoundCode();
        Code.method(x, 1, 1, 1, "LOAD 0, IFNOT 7, LOAD 0, PUSH 1, SUB, CALL 0, RETURN, CALL 1,"
                + "RETURN");
        Code.method(x, 0, 1, 0, "PUSH 5, RETURN");
        DUE.is("99 CALLS within one another", Code.run(x, 0, 10000, 98), 1);
        DUE.is("their result", x.ran(0), 5);
        DUE.is("their number", x.ran(4), 99);
        DUE.is("the 100th", Code.run(x, 0, 10000, 99), 3);
        DUE.is("is not done", x.ran(4), 99);
        DUE.is("has no result", x.ran(0), 0);
        DUE.is("2 before 3", Code.run(x, 0, (int) doneWith(x), 99), 2);
        DUE.is("once more is 3", Code.run(x, 0, (int) doneWith(x) + 1, 99), 3);
        x.change(1, 0, 1, 0);
        DUE.is("4 before 3", Code.run(x, 0, 10000, 99), 4);
        BoundCode y = new BoundCode();
        Code.plain(y, "LOOP 200, CALL 1, END, RETURN");
        Code.plain(y, "RETURN");
        DUE.is("200 CALLS one behind the other", y.run(0, 1000), 1);
        DUE.is("their number", y.ran(4), 200);
    }

    private static long doneWith(BoundCode x) {
        Code.run(x, 0, 10000, 99);
        return x.ran(3);
    }
}
