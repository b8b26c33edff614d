/** Promise 11: STACK. */
public final class P11StackTest {
    private static final Due DUE = new Due();

    public static void main(String[] args) {
        heights();
        onlyWhatIsMet();
        calls();
        greatest();
        chain();
        DUE.end();
    }

    /** METHOD 0 has 2 ARGUMENTS, 1 RESULT and STACK 6; 1 has 8, none and 16; 2 none, 1 and 1. */
    private static void stack(int locals, String lines, long due) {
        BoundCode x = new BoundCode();
        Code.method(x, 2, 1, 4, "LOAD 0, LOAD 1, ADD, RETURN");
        Code.method(x, 8, 0, 16, "RETURN");
        Code.method(x, 0, 1, 0, "PUSH 1, RETURN");
        int m = Code.method(x, 0, 0, locals, lines);
        DUE.is(lines + ": analyse", x.analyse(m), 0);
        DUE.is(lines + ": STACK", x.bound(m, 0), due);
    }

    private static void heights() {
        DUE.sentence("STACK: the greatest, of all its INSTRUCTIONS that are MET, of LOCALS and the "
                + "HEIGHT before and behind it,");
        stack(0, "RETURN", 0);
        stack(16, "RETURN", 16);
        stack(0, "PUSH 1, POP, RETURN", 1);
        stack(3, "PUSH 1, DUP, POP, POP, RETURN", 5);
        stack(2, "PUSH 0, IFNOT 4, PUSH 1, POP, PUSH 1, PUSH 1, POP, POP, RETURN", 4);
        stack(0, "LOOP 1, PUSH 1, POP, END, RETURN", 1);
        stack(0, "PUSH 0, IFNOT 5, PUSH 1, POP, RETURN, PUSH 1, PUSH 1, POP, POP, RETURN", 2);
        stack(0, "PUSH 0, IFNOT 7, PUSH 1, PUSH 1, POP, POP, RETURN, PUSH 1, POP, RETURN", 2);
        BoundCode x = new BoundCode();
        Code.method(x, 0, 1, 2, "PUSH 1, RETURN");
        x.analyse(0);
        DUE.is("STACK with a RESULT", x.bound(0, 0), 3);
    }

    private static void onlyWhatIsMet() {
        DUE.sentence("of all its INSTRUCTIONS that are MET,");
        stack(0, "RETURN, PUSH 1, POP, RETURN", 0);
        stack(0, "LOOP 0, PUSH 1, PUSH 1, END, RETURN", 0);
        stack(0, "LOOP 1, RETURN, END, PUSH 1, POP, RETURN", 0);
        stack(0, "JUMP 3, PUSH 1, POP, RETURN", 0);
        stack(0, "RETURN, CALL 2, POP, RETURN", 0);
        stack(0, "LOOP 0, CALL 2, POP, END, RETURN", 0);
    }

    private static void calls() {
        DUE.sentence("and of a CALL: LOCALS, the HEIGHT without the ARGUMENTS, 2, and the STACK of "
                + "the METHOD that is called.");
        stack(1, "PUSH 1, PUSH 1, CALL 0, POP, RETURN", 1 + 0 + 2 + 6);
        stack(1, "PUSH 1, PUSH 1, PUSH 1, CALL 0, POP, POP, RETURN", 1 + 1 + 2 + 6);
        stack(0, Code.times(8, "PUSH 1") + ", CALL 1, RETURN", 2 + 16);
        stack(0, Code.times(9, "PUSH 1") + ", CALL 1, POP, RETURN", 1 + 2 + 16);
        stack(0, "CALL 2, POP, RETURN", 2 + 1);
        stack(16, "CALL 2, POP, RETURN", 16 + 2 + 1);
        stack(0, "CALL 2, CALL 2, CALL 0, POP, RETURN", 2 + 6);
        stack(0, Code.times(12, "PUSH 1") + "," + Code.times(12, "POP") + ", CALL 2, POP, RETURN",
                12);
        stack(0, Code.times(3, "CALL 2") + "," + Code.times(3, "POP") + ", RETURN", 2 + 2 + 1);
    }

    /** One METHOD with all that it may have; that of what it CALLS is less, as much, or more. */
    private static void greatest() {
        DUE.sentence("STACK: the greatest, of all its INSTRUCTIONS that are MET,");
        BoundCode x = new BoundCode();
        Code.method(x, 0, 0, 16, Code.times(100, "PUSH 1") + ", POP, POP, POP,"
                + Code.times(12, "CALL 1") + ", POP, RETURN");
        Code.method(x, 8, 0, 8, "RETURN");
        Code.method(x, 8, 0, 9, "RETURN");
        Code.method(x, 8, 0, 10, "RETURN");
        DUE.is("analyse(0)", x.analyse(0), 0);
        DUE.is("STACK of 16 LOCALS and 100 words", x.bound(0, 0), 116);
        x.change(0, 103, 16, 2);
        x.analyse(0);
        DUE.is("STACK with a CALL that needs as much", x.bound(0, 0), 16 + 89 + 2 + 9);
        x.change(0, 103, 16, 3);
        x.analyse(0);
        DUE.is("STACK with a CALL that needs more", x.bound(0, 0), 16 + 89 + 2 + 10);
    }

    /** STACKS of all METHODS of a chain, from its end on. */
    private static void chain() {
        DUE.sentence("Else of each that is REACHED the bounds, as numbers without end:");
        BoundCode x = new BoundCode();
        for (int m = 0; m < 31; m++) {
            Code.method(x, 0, 0, 16, Code.times(5, "PUSH 1") + ", CALL " + (m + 1)
                    + "," + Code.times(5, "POP") + ", RETURN");
        }
        Code.method(x, 0, 0, 16, "RETURN");
        DUE.is("analyse(0)", x.analyse(0), 0);
        for (int m = 31; m >= 0; m--) {
            DUE.is("STACK of " + m, x.bound(m, 0), 16 + (31 - m) * (16 + 5 + 2));
        }
    }
}
