/** Promise 6: FAULTS 1 to 4, which an INSTRUCTION has whatever the HEIGHTS. */
public final class P06FormsTest {
    private static final Due DUE = new Due();
    private static final String[] WITHOUT_ARG = {"POP", "DUP", "SWAP", "ADD", "SUB", "MUL", "LESS",
        "DIV", "END", "RETURN"};
    private static final long[] FAR = {Long.MIN_VALUE, Long.MAX_VALUE, 1L << 32, -(1L << 32),
        1L << 31, Integer.MIN_VALUE, Integer.MAX_VALUE};
    private static final String RETURN = ", PUSH 1, RETURN";

    public static void main(String[] args) {
        operations();
        withoutArg();
        locals();
        others();
        targets();
        rounds();
        anyWord();
        lonelyBrackets();
        pairedBrackets();
        eightLoops();
        sameLoops();
        loopAndItsEnd();
        behindAnOpenLoop();
        calls();
        DUE.end();
    }

    /** METHOD 0 has 1 ARGUMENT, 1 RESULT and 2 LOCALS; METHOD 1 has 8 ARGUMENTS and 1 RESULT. */
    private static void fault(String lines, int fault, int place) {
        BoundCode x = new BoundCode();
        Code.method(x, 1, 1, 2, lines);
        Code.method(x, 8, 1, 8, "LOAD 7, RETURN");
        DUE.is(lines + ": check", x.check(0), fault);
        DUE.is(lines + ": place", x.place(), place);
    }

    private static void sound(String lines) {
        fault(lines, 0, BoundCode.NONE);
    }

    private static void operations() {
        DUE.sentence("1 an OPERATION that is not 0 .. 17");
        fault("-1", 1, 0);
        sound("0 5, RETURN");
        sound("PUSH 1, 17");
        fault("PUSH 1, 18", 1, 1);
        fault("PUSH 1, RETURN, -1", 1, 2);
        fault("PUSH 1, RETURN, 18", 1, 2);
        fault("PUSH 1, 2147483647", 1, 1);
        fault("PUSH 1, -2147483648", 1, 1);
    }

    private static void withoutArg() {
        DUE.sentence("An INSTRUCTION is an OPERATION and a number, its ARG (0, where none is "
                + "told):");
        for (String name : WITHOUT_ARG) {
            String lines = "PUSH 1, LOOP 1, END, RETURN, LOOP 1, ";
            sound(lines + name + " 0" + (name.equals("END") ? "" : ", END"));
            for (long arg : new long[] {-1, 1, 2}) {
                fault(lines + name + " " + arg + ", END", 1, 5);
            }
            for (long arg : FAR) {
                fault(lines + name + " " + arg + ", END", 1, 5);
            }
        }
    }

    private static void locals() {
        DUE.sentence("an ARG that is not as told (LOCALS there are;");
        for (int locals = 0; locals <= 16; locals++) {
            for (int operation = 9; operation <= 10; operation++) {
                local(locals, operation, -1, 1);
                local(locals, operation, 0, locals > 0 ? 0 : 1);
                local(locals, operation, locals - 1, locals > 0 ? 0 : 1);
                local(locals, operation, locals, 1);
                local(locals, operation, locals + 1, 1);
            }
        }
        for (long arg : FAR) {
            local(16, 9, arg, 1);
            local(16, 10, arg, 1);
        }
    }

    private static void local(int locals, int operation, long arg, int due) {
        BoundCode x = new BoundCode();
        Code.method(x, 0, 0, locals, "RETURN, PUSH 1");
        x.add(0, operation, arg);
        DUE.is(Code.NAMES.get(operation) + " " + arg + " with LOCALS " + locals, x.check(0), due);
        DUE.is("its place", x.place(), due == 0 ? -1 : 2);
    }

    /** OVER 100 takes more words than there can be, so it is MET with FAULT 5, not with 1. */
    private static void others() {
        DUE.sentence("k 0 .. 100;");
        fault("PUSH 1, RETURN, OVER -1", 1, 2);
        sound("PUSH 1, RETURN, OVER 0");
        sound("PUSH 1, RETURN, OVER 100");
        fault("PUSH 1, RETURN, OVER 101", 1, 2);
        fault("OVER 100, RETURN", 5, 0);
        fault("OVER 101, RETURN", 1, 0);
        for (long arg : FAR) {
            fault("PUSH 1, RETURN, OVER " + arg, 1, 2);
        }
    }

    private static void targets() {
        DUE.sentence("i INSTRUCTIONS there are, behind this one;");
        for (String name : new String[] {"JUMP", "IFNOT"}) {
            for (int i : new int[] {-1, 0, 1, 2, 5, 6}) {
                fault("PUSH 1, RETURN, " + name + " " + i + RETURN, 1, 2);
            }
            for (int i : new int[] {3, 4}) {
                sound("PUSH 1, RETURN, " + name + " " + i + RETURN);
            }
            for (long arg : FAR) {
                fault("PUSH 1, RETURN, " + name + " " + arg + RETURN, 1, 2);
                fault("PUSH 1, RETURN, " + name + " " + (arg + 3) + RETURN, 1, 2);
            }
            fault(name + " 0", 1, 0);
            fault(name + " 1", 1, 0);
            fault("PUSH 1, RETURN, " + name + " 2", 1, 2);
            fault("PUSH 1, RETURN, " + name + " 3", 1, 2);
            sound("PUSH 1, RETURN," + Code.times(116, "POP") + "," + name + " 119, RETURN");
            fault("PUSH 1, RETURN," + Code.times(116, "POP") + "," + name + " 120, RETURN", 1,
                    118);
        }
    }

    private static void rounds() {
        DUE.sentence("14 LOOP n: what is up to its END is done n times (0 .. 1000000000).");
        fault("LOOP -1, END" + RETURN, 1, 0);
        sound("LOOP 0, END" + RETURN);
        sound("LOOP 1, END" + RETURN);
        sound("LOOP 1000000000, END" + RETURN);
        fault("LOOP 1000000001, END" + RETURN, 1, 0);
        for (long arg : FAR) {
            fault("LOOP " + arg + ", END" + RETURN, 1, 0);
        }
    }

    private static void anyWord() {
        DUE.sentence("n; any v).");
        sound("PUSH 0, RETURN");
        for (long arg : FAR) {
            sound("PUSH " + arg + ", RETURN");
        }
    }

    private static void lonelyBrackets() {
        DUE.sentence("2 END without a LOOP, or a LOOP without its END");
        fault("END", 2, 0);
        fault("LOOP 1", 2, 0);
        fault("LOOP 0", 2, 0);
        fault("PUSH 1, RETURN, END", 2, 2);
        fault("PUSH 1, RETURN, LOOP 1", 2, 2);
        fault("END, LOOP 1" + RETURN, 2, 0);
        fault("PUSH 1, LOOP 1, RETURN", 2, 1);
        fault(Code.times(120, "LOOP 1"), 2, 0);
        fault(Code.times(120, "END"), 2, 0);
    }

    private static void pairedBrackets() {
        DUE.sentence("(ENDS belong to LOOPS as brackets do;");
        fault("LOOP 1, LOOP 1, END, RETURN", 2, 0);
        fault("LOOP 1, END, END, RETURN", 2, 2);
        fault("LOOP 1, END, LOOP 1, RETURN", 2, 2);
        fault("LOOP 1, END, END, LOOP 1" + RETURN, 2, 2);
        sound("LOOP 1, LOOP 1, END, LOOP 1, END, END" + RETURN);
        fault("LOOP 1, LOOP 1, END, LOOP 1, END, LOOP 1, END" + RETURN, 2, 0);
        fault("LOOP 1, LOOP 1, END, LOOP 1, END, END, END" + RETURN, 2, 6);
        sound(Code.times(59, "LOOP 1, END") + RETURN);
        BoundCode x = new BoundCode();
        Code.method(x, 0, 1, 1, "LOOP 2, LOOP 3, LOAD 0, PUSH 1, ADD, STORE 0, END,"
                + "LOAD 0, PUSH 10, ADD, STORE 0, END, LOAD 0, RETURN");
        DUE.is("run of a LOOP within one", x.run(0, 1000), 1);
        DUE.is("its result", x.ran(0), 26);
    }

    private static void eightLoops() {
        DUE.sentence("at most 8 LOOPS within one another, else 2 at the ninth).");
        for (int n = 1; n <= 8; n++) {
            sound(Code.times(n, "LOOP 1") + "," + Code.times(n, "END") + RETURN);
            sound(Code.times(n, "LOOP 0") + "," + Code.times(n, "END") + RETURN);
        }
        for (int n : new int[] {9, 10, 17, 59}) {
            fault(Code.times(n, "LOOP 1") + "," + Code.times(n, "END") + RETURN, 2, 8);
            fault(Code.times(n, "LOOP 0") + "," + Code.times(n, "END") + RETURN, 2, 8);
        }
        sound(Code.times(8, "LOOP 1") + ",END, LOOP 1, END, END, LOOP 1, LOOP 1, END,"
                + Code.times(7, "END") + RETURN);
        fault(Code.times(8, "LOOP 1") + ",END, LOOP 1, LOOP 1, END,"
                + Code.times(8, "END") + RETURN, 2, 10);
        sound(Code.times(3, Code.times(8, "LOOP 1") + "," + Code.times(8, "END")) + RETURN);
    }

    private static void sameLoops() {
        DUE.sentence("3 a JUMP, IFNOT to an INSTRUCTION that is not within the same LOOPS");
        fault("JUMP 2, LOOP 1, PUSH 1, POP, END" + RETURN, 3, 0);
        fault("PUSH 1, IFNOT 4, LOOP 1, PUSH 1, POP, END" + RETURN, 3, 1);
        fault("LOOP 1, JUMP 3, END, PUSH 1, RETURN", 3, 1);
        fault("LOOP 1, PUSH 1, IFNOT 4, END, PUSH 1, RETURN", 3, 2);
        fault("LOOP 1, JUMP 4, END, LOOP 1, END" + RETURN, 3, 1);
        fault("LOOP 1, JUMP 4, LOOP 1, PUSH 1, POP, END, END" + RETURN, 3, 1);
        fault("LOOP 1, LOOP 1, JUMP 4, END, END" + RETURN, 3, 2);
        fault("LOOP 1, LOOP 1, JUMP 5, END, END, PUSH 1, RETURN", 3, 2);
        sound("LOOP 1, JUMP 4, LOOP 1, END, JUMP 5, END" + RETURN);
        sound("LOOP 1, LOOP 1, JUMP 3, JUMP 4, END, END" + RETURN);
        sound("JUMP 5, LOOP 1, LOOP 1, END, END, JUMP 6" + RETURN);
        fault("PUSH 1, RETURN, JUMP 4, LOOP 1, END", 3, 2);
        fault("LOOP 0, JUMP 3, END, PUSH 1, RETURN", 3, 1);
    }

    private static void loopAndItsEnd() {
        DUE.sentence("(a LOOP is outside of itself, its END within it;");
        sound("JUMP 1, LOOP 1, END" + RETURN);
        fault("JUMP 2, LOOP 1, END" + RETURN, 3, 0);
        sound("JUMP 3, LOOP 1, END" + RETURN);
        sound("LOOP 1, JUMP 2, END" + RETURN);
        fault("LOOP 1, JUMP 3, END" + RETURN, 3, 1);
        sound("LOOP 1, JUMP 2, LOOP 1, END, END" + RETURN);
        fault("LOOP 1, JUMP 3, LOOP 1, END, END" + RETURN, 3, 1);
        sound("LOOP 1, JUMP 4, LOOP 1, END, END" + RETURN);
        fault("LOOP 1, JUMP 5, LOOP 1, END, END" + RETURN, 3, 1);
        sound("LOOP 1, LOOP 1, JUMP 3, END, END" + RETURN);
        fault("LOOP 1, LOOP 1, JUMP 4, END, END" + RETURN, 3, 2);
    }

    private static void behindAnOpenLoop() {
        DUE.sentence("all behind a LOOP without its END is within it).");
        fault("JUMP 2, LOOP 1, PUSH 1, RETURN", 3, 0);
        fault("JUMP 3, LOOP 1, PUSH 1, RETURN", 3, 0);
        fault("JUMP 1, LOOP 1, PUSH 1, RETURN", 2, 1);
        fault("JUMP 4, LOOP 1, LOOP 1, END, RETURN", 3, 0);
        fault("JUMP 2, LOOP -1, PUSH 1, END, RETURN", 3, 0);
        fault("JUMP 2, LOOP -1, PUSH 1, RETURN", 3, 0);
        fault("JUMP 3, LOOP -1, END, PUSH 1, RETURN", 1, 1);
    }

    private static void calls() {
        DUE.sentence("4 a CALL of a METHOD that is not there.");
        fault("PUSH 1, RETURN, CALL -1", 4, 2);
        sound("PUSH 1, RETURN, CALL 0");
        sound("PUSH 1, RETURN, CALL 1");
        fault("PUSH 1, RETURN, CALL 2", 4, 2);
        for (long arg : FAR) {
            fault("PUSH 1, RETURN, CALL " + arg, 4, 2);
        }
        BoundCode x = new BoundCode();
        Code.plain(x, "RETURN, CALL 1, CALL 31, CALL 32");
        int[] places = {1, 2};
        for (int count = 1; count < 32; count++) {
            DUE.is("check with METHODS " + count, x.check(0), 4);
            DUE.is("its place", x.place(), places[count > 1 ? 1 : 0]);
            x.method(0, 0, 0);
        }
        DUE.is("CALL 32 with METHODS 32", x.check(0), 4);
        DUE.is("its place", x.place(), 3);
        x.change(0, 3, 16, 31);
        DUE.is("CALL 31 with METHODS 32", x.check(0), 0);
    }
}
