/** Promise 13: what each OPERATION does in a RUN. */
public final class P13OperationsTest {
    private static final long MIN = Long.MIN_VALUE;
    private static final long MAX = Long.MAX_VALUE;
    private static final Due DUE = new Due();

    public static void main(String[] args) {
        stackWords();
        wrapping();
        less();
        division();
        locals();
        over();
        jumps();
        ifnot();
        loops();
        calls();
        returns();
        DUE.end();
    }

    private static void result(String lines, long due, long... words) {
        BoundCode x = new BoundCode();
        Code.method(x, words.length, 1, 16, lines);
        DUE.is(lines + ": run", Code.run(x, 0, 100000, words), 1);
        DUE.is(lines + ": result", x.ran(0), due);
    }

    private static void stackWords() {
        DUE.sentence("0 PUSH v. 1 POP. 2 DUP: the top once more. 3 SWAP both at the top.");
        for (long v : new long[] {0, 1, -1, MIN, MAX, 1L << 32}) {
            result("PUSH " + v + ", RETURN", v);
        }
        result("PUSH 1, PUSH 2, POP, RETURN", 1);
        result("PUSH 3, DUP, MUL, RETURN", 9);
        result("PUSH 7, PUSH 3, SWAP, SUB, RETURN", -4);
        result("PUSH 9, PUSH 7, PUSH 3, SWAP, POP, SUB, RETURN", 6);
    }

    private static void operate(String name, long second, long top, long due) {
        result("LOAD 0, LOAD 1, " + name + ", RETURN", due, second, top);
    }

    private static void wrapping() {
        DUE.sentence("4 ADD, 5 SUB, 6 MUL, 7 LESS: of the second and the top one word (LESS 1 or "
                + "0; longs that wrap).");
        operate("ADD", 5, 3, 8);
        operate("ADD", MAX, 1, MIN);
        operate("ADD", MIN, -1, MAX);
        operate("ADD", MIN, MIN, 0);
        operate("SUB", 5, 3, 2);
        operate("SUB", 3, 5, -2);
        operate("SUB", MIN, 1, MAX);
        operate("SUB", MAX, -1, MIN);
        operate("SUB", 0, MIN, MIN);
        operate("MUL", -5, 3, -15);
        operate("MUL", MAX, 2, -2);
        operate("MUL", MIN, -1, MIN);
        operate("MUL", 1L << 32, 1L << 32, 0);
        operate("MUL", MAX, MAX, 1);
    }

    private static void less() {
        DUE.sentence("(LESS 1 or 0;");
        operate("LESS", 3, 4, 1);
        operate("LESS", 4, 4, 0);
        operate("LESS", 5, 4, 0);
        operate("LESS", MIN, MAX, 1);
        operate("LESS", MAX, MIN, 0);
        operate("LESS", -1, 0, 1);
        operate("LESS", 1L << 32, 1, 0);
    }

    private static void division() {
        DUE.sentence("8 DIV: likewise; by 0 it is 0.");
        operate("DIV", 7, 2, 3);
        operate("DIV", -7, 2, -3);
        operate("DIV", 7, -2, -3);
        operate("DIV", 2, 7, 0);
        operate("DIV", 5, 0, 0);
        operate("DIV", 0, 0, 0);
        operate("DIV", MIN, 0, 0);
        operate("DIV", MAX, 0, 0);
        operate("DIV", MIN, -1, MIN);
        operate("DIV", MIN, 1, MIN);
        operate("DIV", MAX, -1, -MAX);
        operate("DIV", 1L << 40, 1L << 32, 256);
    }

    private static void locals() {
        DUE.sentence("9 LOAD l, 10 STORE l: a LOCAL comes to the top, the top goes to a LOCAL.");
        for (int l = 0; l < 16; l++) {
            result("PUSH 8, STORE " + l + ", PUSH 9, POP, LOAD " + l + ", RETURN", 8);
        }
        result("PUSH 8, STORE 0, LOAD 0, RETURN", 8, 3);
        result("PUSH 8, PUSH 9, STORE 0, RETURN", 8);
        result("LOAD 0, PUSH 1, STORE 0, RETURN", 3, 3);
    }

    private static void over() {
        DUE.sentence("11 OVER k: the word under k others once more, on top.");
        result("PUSH 4, PUSH 5, OVER 0, ADD, ADD, RETURN", 14);
        result("PUSH 4, PUSH 5, OVER 1, ADD, ADD, RETURN", 13);
        result("PUSH 4, PUSH 5, PUSH 6, OVER 2, STORE 0, POP, POP, POP, LOAD 0, RETURN", 4);
        BoundCode x = new BoundCode();
        Code.method(x, 0, 1, 1, "PUSH 77," + Code.times(98, "PUSH 1") + ", OVER 98, STORE 0,"
                + Code.times(12, "CALL 1") + ", POP, POP, POP, LOAD 0, RETURN");
        Code.method(x, 8, 0, 8, "RETURN");
        DUE.is("run of OVER 98, the deepest", x.run(0, 1000), 1);
        DUE.is("its result", x.ran(0), 77);
        DUE.is("its WORDS, in the first CALL", x.ran(2), 1 + 91 + 2 + 8);
    }

    private static void jumps() {
        DUE.sentence("12 JUMP i.");
        result("JUMP 1, PUSH 2, RETURN", 2);
        result("JUMP 3, PUSH 1, RETURN, PUSH 2, RETURN", 2);
        result("PUSH 1, JUMP 119," + Code.times(117, "DUP") + ", RETURN", 1);
    }

    private static void ifnot() {
        DUE.sentence("13 IFNOT i: the top goes; if it is 0, to i.");
        String lines = "LOAD 0, IFNOT 4, PUSH 1, RETURN, PUSH 2, RETURN";
        result(lines, 2, 0);
        for (long word : new long[] {1, -1, MIN, MAX, 1L << 32}) {
            result(lines, 1, word);
        }
        result("PUSH 7, LOAD 0, IFNOT 3, RETURN", 7, 0);
        result("PUSH 7, LOAD 0, IFNOT 3, RETURN", 7, 1);
    }

    private static void loops() {
        DUE.sentence("14 LOOP n: what is up to its END is done n times (0 .. 1000000000). 15 END.");
        for (int n : new int[] {0, 1, 2, 3, 1000}) {
            result("LOOP " + n + ", LOAD 0, PUSH 1, ADD, STORE 0, END, LOAD 0, RETURN", n + 3, 3);
        }
        result("LOOP 3, LOOP 4, LOAD 0, PUSH 1, ADD, STORE 0, END, END, LOAD 0, RETURN", 12, 0);
        result("LOOP 3, LOOP 0, LOAD 0, PUSH 1, ADD, STORE 0, END, END, LOAD 0, RETURN", 0, 0);
        result("LOOP 0, LOOP 3, LOAD 0, PUSH 1, ADD, STORE 0, END, END, LOAD 0, RETURN", 0, 0);
        result("LOOP 9, LOAD 0, PUSH 1, ADD, STORE 0, LOAD 0, PUSH 4, LESS, IFNOT 10, JUMP 12,"
                + "LOAD 0, RETURN, END, PUSH 77, RETURN", 4, 0);
        result("LOOP 2, LOAD 0, IFNOT 5, PUSH 0, STORE 0, LOOP 2, LOAD 1, PUSH 1, ADD, STORE 1,"
                + "END, END, LOAD 1, RETURN", 4, 1, 0);
        result(Code.times(8, "LOOP 2") + ", LOAD 0, PUSH 1, ADD, STORE 0," + Code.times(8, "END")
                + ", LOAD 0, RETURN", 256, 0);
        result("LOOP 1000000000, LOAD 0, PUSH 1, ADD, STORE 0, LOAD 0, PUSH 9999, LESS, IFNOT 10,"
                + "JUMP 12, LOAD 0, RETURN, END, PUSH 77, RETURN", 9999, 0);
    }

    private static void calls() {
        DUE.sentence("16 CALL m: the ARGUMENTS of METHOD m go (the last one is the top), its "
                + "RESULTS come.");
        BoundCode x = new BoundCode();
        Code.method(x, 2, 1, 3, "LOAD 0, LOAD 1, SUB, LOAD 2, ADD, PUSH 9, STORE 2, RETURN");
        Code.method(x, 0, 1, 1, "PUSH 100, PUSH 30, PUSH 4, CALL 0, CALL 0, STORE 0,"
                + "LOOP 3, LOAD 0, PUSH 1, CALL 2, STORE 0, END, LOAD 0, RETURN");
        Code.method(x, 2, 1, 2, "LOOP 7, LOAD 0, LOAD 1, ADD, RETURN, END, RETURN");
        DUE.is("run of CALLS", x.run(1, 1000), 1);
        DUE.is("their result; LOCALS are 0 anew, LOOPS of the caller stay", x.ran(0), 77);
        Code.method(x, 0, 1, 0, "PUSH 5, CALL 4, RETURN");
        Code.plain(x, "RETURN");
        DUE.is("run of a CALL without ARGUMENTS and RESULTS", x.run(3, 10), 1);
        DUE.is("its result", x.ran(0), 5);
        Code.method(x, 0, 1, 0, "PUSH 9, PUSH 1, PUSH 2, PUSH 3, PUSH 4, PUSH 5, PUSH 6, PUSH 7,"
                + "PUSH 8, CALL 6, SUB, RETURN");
        Code.method(x, 8, 1, 16, "LOAD 0, PUSH 10, MUL, LOAD 7, ADD, RETURN");
        DUE.is("run of a CALL with eight ARGUMENTS", x.run(5, 100), 1);
        DUE.is("its result", x.ran(0), 9 - 18);
    }

    private static void returns() {
        DUE.sentence("17 RETURN.");
        result("PUSH 1, RETURN, PUSH 2, RETURN", 1);
        result("LOOP 5, PUSH 1, RETURN, END", 1);
        BoundCode x = new BoundCode();
        Code.plain(x, "RETURN");
        DUE.is("run of RETURN alone", x.run(0, 1), 1);
        DUE.is("what it did", x.ran(3), 1);
    }
}
