/** Promise 14: ran. */
public final class P14RanTest {
    private static final Due DUE = new Due();

    public static void main(String[] args) {
        BoundCode x = new BoundCode();
        DUE.noMethod("ran(5)", () -> x.ran(5));
        DUE.noMethod("ran(-1)", () -> x.ran(-1));
        ran(x, "before a run", 0, 0, 0, 0, 0);
        Code.method(x, 2, 1, 3, "LOAD 0, LOAD 1, CALL 1, RETURN");
        Code.method(x, 2, 1, 2, "LOAD 0, DUP, LOAD 1, MUL, ADD, RETURN");
        Code.plain(x, "PUSH 1, PUSH 2, POP, POP, RETURN");
        Code.method(x, 0, 0, 7, "PUSH 1, POP, RETURN");
        Code.run(x, 0, 100, 6, 7);
        ran(x, "of a CALL", 48, 10, 3 + 2 + 2 + 3, 10, 1);
        x.run(2, 100);
        ran(x, "without a RESULT", 0, 5, 2, 5, 0);
        x.run(3, 0);
        ran(x, "of nothing done", 0, 0, 7, 0, 0);
        x.run(3, 1);
        ran(x, "of one done", 0, 1, 8, 1, 0);
        Code.run(x, 0, 9, 6, 7);
        ran(x, "that did not come to its end", 0, 9, 10, 9, 1);
        x.cost(16, 1000);
        x.cost(17, 0);
        Code.run(x, 0, 100, 6, 7);
        ran(x, "with other COSTS", 48, 1007, 10, 10, 1);
        DUE.noMethod("run(9, 1)", () -> x.run(9, 1));
        DUE.badArgument("run(0, 1)", () -> x.run(0, 1));
        ran(x, "after runs that threw", 48, 1007, 10, 10, 1);
        x.change(3, 0, 1, 0);
        x.run(3, 10);
        ran(x, "of a FAULT", 0, 0, 0, 0, 0);
        loops();
        words();
        mostOfAll();
        DUE.end();
    }

    private static void ran(BoundCode x, String when, long... due) {
        for (int what = 0; what < due.length; what++) {
            DUE.is("ran(" + what + ") " + when, x.ran(what), due[what]);
        }
    }

    private static void loops() {
        BoundCode x = new BoundCode();
        x.cost(14, 1000);
        x.cost(15, 10);
        Code.plain(x, "LOOP 3, PUSH 1, POP, END, RETURN");
        Code.plain(x, "LOOP 0, PUSH 1, POP, END, RETURN");
        x.run(0, 100);
        ran(x, "of a LOOP", 0, 1000 + 3 * 12 + 1, 1, 11, 0);
        x.run(1, 100);
        ran(x, "of a LOOP of 0", 0, 1001, 0, 2, 0);
    }

    /** As many METHODS as may be, each with all that it may have. */
    private static void mostOfAll() {
        BoundCode x = new BoundCode();
        Code.method(x, 0, 0, 16, Code.times(100, "PUSH 7") + ", CALL 0,"
                + Code.times(12, "CALL 1") + "," + Code.times(4, "POP") + ", RETURN");
        Code.method(x, 8, 0, 8, "RETURN");
        DUE.is("run as deep as may be", x.run(0, 100000), 3);
        ran(x, "of as many words as may be", 0, 100 * 100 + 99, 100 * 116 + 2 * 99,
                100 * 100 + 99, 99);
        BoundCode y = new BoundCode();
        String ends = Code.times(8, "END") + ", RETURN";
        Code.method(y, 1, 0, 1, Code.times(8, "LOOP 1") + ", LOAD 0, IFNOT 15, LOAD 0, PUSH 1,"
                + "SUB, CALL 0, JUMP 16, CALL 1," + ends);
        Code.plain(y, Code.times(8, "LOOP 2") + "," + ends);
        DUE.is("run in as many LOOPS as may be", Code.run(y, 0, 100000, 98), 1);
        int did = 98 * 24 + 20 + 255 + 510 + 1;
        ran(y, "of as many LOOPS as may be", 0, did, 99 + 2 * 99, did, 99);
    }

    /** WORDS are of the highest time, be it before, in or behind a CALL. */
    private static void words() {
        BoundCode x = new BoundCode();
        Code.method(x, 8, 0, 8, "RETURN");
        Code.plain(x, Code.times(9, "PUSH 1") + ",CALL 0, POP, RETURN");
        x.run(1, 100);
        DUE.is("ARGUMENTS are counted once", x.ran(2), 1 + 2 + 8);
        Code.method(x, 0, 1, 0, "PUSH 1, RETURN");
        Code.method(x, 0, 0, 2, "CALL 2, CALL 2, CALL 2, CALL 2, POP, POP, POP, POP, RETURN");
        x.run(3, 100);
        DUE.is("of the last CALL", x.ran(2), 2 + 3 + 2 + 1);
        Code.method(x, 0, 0, 2, "PUSH 1, PUSH 1, PUSH 1, PUSH 1, POP, POP, POP, POP, CALL 2, POP,"
                + "RETURN");
        x.run(4, 100);
        DUE.is("before the CALL", x.ran(2), 6);
        x.run(4, 3);
        DUE.is("so far", x.ran(2), 5);
    }
}
