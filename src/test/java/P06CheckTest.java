/** Promise 6: check, FAULT by FAULT; the place of each is asked with it. */
public final class P06CheckTest {
    private static final Due DUE = new Due();

    public static void main(String[] args) {
        BoundCode none = new BoundCode();
        none.method(0, 0, 0);
        DUE.is("check of one that has never had any", none.check(0), 9);
        DUE.noMethod("check(1)", () -> none.check(1));
        DUE.noMethod("check(-1)", () -> none.check(-1));
        forms();
        brackets();
        jumps();
        calls();
        words();
        heights();
        ends();
        orders();
        DUE.end();
    }

    /** METHOD 0 has 1 ARGUMENT, 1 RESULT and 2 LOCALS; METHOD 1 has 8 ARGUMENTS and 1 RESULT. */
    private static void fault(String lines, int fault, int place) {
        BoundCode x = new BoundCode();
        Code.method(x, 1, 1, 2, lines);
        Code.method(x, 8, 1, 8, "LOAD 7, RETURN");
        DUE.is(lines + ": check", x.check(0), fault);
        DUE.is(lines + ": place", x.place(), place);
    }

    private static void sound(String lines) {
        fault(lines, 0, BoundCode.NONE);
    }

    private static void forms() {
        fault("18", 1, 0);
        fault("-1", 1, 0);
        fault("PUSH 1, 2147483647", 1, 1);
        for (String name : new String[] {"POP", "DUP", "SWAP", "ADD", "SUB", "MUL", "LESS", "DIV",
            "END", "RETURN"}) {
            fault("PUSH 1, " + name + " 1, RETURN", 1, 1);
            fault("PUSH 1, " + name + " -4294967296, RETURN", 1, 1);
        }
        sound("PUSH 9223372036854775807, RETURN");
        sound("PUSH -9223372036854775808, RETURN");
        sound("LOAD 1, RETURN");
        fault("LOAD 2, RETURN", 1, 0);
        fault("LOAD -1, RETURN", 1, 0);
        fault("LOAD 4294967296, RETURN", 1, 0);
        sound("PUSH 1, STORE 1, PUSH 1, RETURN");
        fault("PUSH 1, STORE 2, RETURN", 1, 1);
        fault("PUSH 1, STORE -1, RETURN", 1, 1);
        fault("PUSH 1, OVER -1, RETURN", 1, 1);
        fault("PUSH 1, OVER 101, RETURN", 1, 1);
        fault("PUSH 1, OVER 100, RETURN", 5, 1);
        fault("PUSH 1, LOOP -1, END, RETURN", 1, 1);
        fault("PUSH 1, LOOP 1000000001, END, RETURN", 1, 1);
        sound("PUSH 1, LOOP 1000000000, END, RETURN");
        sound("LOOP 0, END, PUSH 1, RETURN");
        fault("JUMP 0", 1, 0);
        fault("JUMP 1", 1, 0);
        fault("PUSH 1, JUMP 1, RETURN", 1, 1);
        fault("PUSH 1, JUMP -1, RETURN", 1, 1);
        fault("PUSH 1, JUMP 4294967298, RETURN", 1, 1);
        sound("PUSH 1, JUMP 2, RETURN");
        fault("PUSH 1, IFNOT 3, RETURN", 1, 1);
        fault("PUSH 1, IFNOT 1, RETURN", 1, 1);
        sound("PUSH 1, IFNOT 2, PUSH 1, RETURN");
    }

    private static void brackets() {
        fault("END", 2, 0);
        fault("PUSH 1, LOOP 1, RETURN", 2, 1);
        fault("LOOP 1, LOOP 1, END, RETURN", 2, 0);
        fault("LOOP 1, END, END, RETURN", 2, 2);
        fault("LOOP 1, END, LOOP 1, RETURN", 2, 2);
        String ends = Code.times(9, "END");
        sound(Code.times(8, "LOOP 1") + "," + Code.times(8, "END") + ",PUSH 1, RETURN");
        fault(Code.times(9, "LOOP 1") + "," + ends + ",PUSH 1, RETURN", 2, 8);
        fault(Code.times(8, "LOOP 0") + ",LOOP 1,END,LOOP 1,END," + Code.times(8, "END"), 2, 8);
        sound(Code.times(7, "LOOP 1") + ",LOOP 1,END,LOOP 1,END," + Code.times(7, "END")
                + ",PUSH 1, RETURN");
        fault(Code.times(120, "LOOP 1"), 2, 0);
        fault(Code.times(60, "LOOP 1") + "," + Code.times(60, "END"), 2, 8);
    }

    private static void jumps() {
        fault("JUMP 2, LOOP 1, END, PUSH 1, RETURN", 3, 0);
        fault("PUSH 1, IFNOT 4, LOOP 1, PUSH 1, POP, END, PUSH 1, RETURN", 3, 1);
        sound("JUMP 1, LOOP 1, END, PUSH 1, RETURN");
        sound("JUMP 3, LOOP 1, END, PUSH 1, RETURN");
        fault("LOOP 1, JUMP 3, END, PUSH 1, RETURN", 3, 1);
        sound("LOOP 1, JUMP 2, END, PUSH 1, RETURN");
        fault("LOOP 1, JUMP 4, END, LOOP 1, END, PUSH 1, RETURN", 3, 1);
        sound("LOOP 1, JUMP 2, LOOP 1, END, END, PUSH 1, RETURN");
        fault("LOOP 1, JUMP 3, LOOP 1, END, END, PUSH 1, RETURN", 3, 1);
        fault("LOOP 1, LOOP 1, JUMP 4, END, END, PUSH 1, RETURN", 3, 2);
        fault("JUMP 2, LOOP 1, PUSH 1, RETURN", 3, 0);
        fault("JUMP 4, LOOP 1, LOOP 1, END, RETURN", 3, 0);
        fault("JUMP 2, LOOP -1, PUSH 1, END, RETURN", 3, 0);
        fault("LOOP 1, END 1, RETURN", 1, 1);
    }

    private static void calls() {
        fault("CALL 2, RETURN", 4, 0);
        fault("CALL -1, RETURN", 4, 0);
        fault("CALL 4294967296, RETURN", 4, 0);
        fault("CALL 9223372036854775807, RETURN", 4, 0);
        sound("PUSH 1, CALL 0, RETURN");
        fault("PUSH 1, RETURN, CALL 7", 4, 2);
        BoundCode x = new BoundCode();
        Code.plain(x, "CALL 1, RETURN");
        DUE.is("CALL of one that is not there", x.check(0), 4);
        x.method(0, 0, 0);
        DUE.is("CALL of one that came, whatever its FAULT", x.check(0), 0);
    }

    private static void words() {
        fault("POP", 5, 0);
        fault("DUP", 5, 0);
        fault("IFNOT 1, RETURN", 5, 0);
        fault("STORE 0", 5, 0);
        fault("RETURN", 5, 0);
        for (String name : new String[] {"SWAP", "ADD", "SUB", "MUL", "LESS", "DIV"}) {
            fault("PUSH 1, " + name + ", RETURN", 5, 1);
        }
        fault("PUSH 1, OVER 1, RETURN", 5, 1);
        sound("PUSH 1, OVER 0, POP, RETURN");
        fault(Code.times(7, "PUSH 1") + ",CALL 1, RETURN", 5, 7);
        sound(Code.times(8, "PUSH 1") + ",CALL 1, RETURN");
        fault(Code.times(100, "PUSH 1") + ",PUSH 1, RETURN", 6, 100);
        fault(Code.times(100, "PUSH 1") + ",DUP, RETURN", 6, 100);
        fault(Code.times(100, "PUSH 1") + ",LOAD 0, RETURN", 6, 100);
        fault(Code.times(100, "PUSH 1") + ",OVER 99, RETURN", 6, 100);
        fault(Code.times(100, "PUSH 1") + ",OVER 100, RETURN", 5, 100);
        fault(Code.times(100, "PUSH 1") + ",RETURN", 8, 100);
        sound(Code.times(60, "PUSH 1") + "," + Code.times(59, "ADD") + ",RETURN");
        sound(Code.times(100, "PUSH 1") + "," + Code.times(14, "CALL 1") + ",ADD, RETURN");
        fault(Code.times(100, "PUSH 1") + ",CALL 0, RETURN", 8, 101);
        BoundCode x = new BoundCode();
        Code.method(x, 0, 1, 0, "PUSH 1, RETURN");
        Code.plain(x, Code.times(100, "PUSH 1") + ", CALL 0");
        DUE.is("CALL above 100", x.check(1), 6);
        DUE.is("CALL above 100: place", x.place(), 100);
    }

    private static void heights() {
        fault("PUSH 0, IFNOT 3, PUSH 1, PUSH 1, RETURN", 7, 2);
        fault("PUSH 0, PUSH 0, IFNOT 4, POP, RETURN", 7, 3);
        fault("PUSH 1, PUSH 0, IFNOT 5, POP, JUMP 5, RETURN", 7, 4);
        fault("PUSH 1, PUSH 0, IFNOT 6, POP, PUSH 1, IFNOT 6, RETURN", 7, 5);
        sound("PUSH 1, PUSH 0, IFNOT 5, POP, PUSH 2, RETURN");
        fault("LOOP 2, PUSH 1, END, RETURN", 7, 2);
        fault("PUSH 1, LOOP 2, POP, END, RETURN", 7, 3);
        sound("PUSH 1, LOOP 2, POP, PUSH 2, END, RETURN");
        sound("LOOP 0, PUSH 1, END, PUSH 1, RETURN");
        fault("LOOP 1, PUSH 0, IFNOT 4, PUSH 1, END, PUSH 1, RETURN", 7, 3);
        fault("PUSH 1, DUP, IFNOT 7, DUP, LOOP 1, END, LOOP 1, END, RETURN", 3, 2);
        fault("PUSH 1, DUP, IFNOT 6, DUP, LOOP 1, END, RETURN", 7, 5);
        fault("PUSH 1, DUP, IFNOT 6, DUP, LOOP 0, END, RETURN", 7, 4);
        fault("PUSH 1, DUP, RETURN", 8, 2);
        fault("PUSH 1, JUMP 3, POP, RETURN, SWAP, RETURN", 0, BoundCode.NONE);
    }

    private static void ends() {
        fault("", 9, 0);
        fault("PUSH 1", 9, 0);
        fault("PUSH 1, POP", 9, 1);
        fault("LOOP 1, END", 9, 1);
        fault("LOOP 0, END", 9, 0);
        fault("PUSH 1, LOOP 0, PUSH 1, RETURN, END", 9, 1);
        sound("LOOP 1, PUSH 1, RETURN, END");
        fault("PUSH 1, RETURN, PUSH 1", 0, BoundCode.NONE);
        fault("CALL 0", 5, 0);
        fault("PUSH 1, CALL 0", 9, 1);
    }

    private static void orders() {
        fault("POP, POP, 99", 1, 2);
        fault("POP, CALL 9, END", 4, 1);
        fault("POP, END, CALL 9", 2, 1);
        fault("JUMP 2, LOOP 1, 99", 3, 0);
        fault("LOOP -1, RETURN", 1, 0);
        fault("DUP, PUSH 1", 5, 0);
        fault(Code.times(100, "PUSH 1") + ",PUSH 1", 6, 100);
        fault("LOOP 1, PUSH 1, END", 7, 2);
        fault("PUSH 1, PUSH 1, RETURN, POP", 8, 2);
    }
}
