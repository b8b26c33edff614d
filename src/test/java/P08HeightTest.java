/** Promise 8: height. */
public final class P08HeightTest {
    private static final Due DUE = new Due();

    public static void main(String[] args) {
        behindEachOperation();
        beforeEach();
        notMet();
        ofOneWithAFault();
        noSuchInstruction();
        noSuchMethod();
        followsChanges();
        DUE.end();
    }

    private static void heights(BoundCode x, int method, int... due) {
        for (int i = 0; i < due.length; i++) {
            DUE.is("height(" + method + ", " + i + ")", x.height(method, i), due[i]);
        }
    }

    private static void behindEachOperation() {
        DUE.sentence("HEIGHTS: 0 before the first INSTRUCTION; behind each as it tells;");
        behind("PUSH 1", 1, 0, 99);
        behind("POP", -1, 1, 100);
        behind("DUP", 1, 1, 99);
        behind("SWAP", 0, 2, 100);
        for (String name : new String[] {"ADD", "SUB", "MUL", "LESS", "DIV"}) {
            behind(name, -1, 2, 100);
        }
        behind("LOAD 1", 1, 0, 99);
        behind("STORE 1", -1, 1, 100);
        behind("OVER 0", 1, 1, 99);
        behind("OVER 98", 1, 99, 99);
        behind("JUMP 1", 0, 0);
        behind("JUMP 101", 0, 100);
        behind("IFNOT 2", -1, 1);
        behind("IFNOT 101", -1, 100);
        behind("LOOP 1, END", 0, 0, 100);
        behind("LOOP 0, PUSH 1, END", 0, 0, 100);
        behind("CALL 1", -8, 8, 100);
        behind("CALL 2", 1, 0, 99);
        behind("CALL 3", 0, 1, 100);
        behind("CALL 4", -7, 8, 100);
    }

    /** Before it there are some words; behind it all go, eight and eight first. */
    private static void behind(String lines, int change, int... befores) {
        for (int before : befores) {
            BoundCode x = new BoundCode();
            int behind = before + change;
            Code.method(x, 0, 0, 2, before > 0 ? Code.times(before, "PUSH 1") : "");
            Code.append(x, 0, lines);
            int next = x.about(0, 3);
            Code.append(x, 0, behind > 7 ? Code.times(behind / 8, "CALL 1") : "");
            Code.append(x, 0, behind % 8 > 0 ? Code.times(behind % 8, "POP") : "");
            Code.append(x, 0, "RETURN");
            x.method(8, 0, 8);
            x.method(0, 1, 0);
            x.method(1, 1, 1);
            x.method(8, 1, 8);
            DUE.is("check of " + lines + " at " + before, x.check(0), 0);
            DUE.is("height before the first", x.height(0, 0), 0);
            DUE.is("height before " + lines, x.height(0, before), before);
            DUE.is("height behind " + lines + " at " + before, x.height(0, next), behind);
        }
    }

    private static void beforeEach() {
        DUE.sentence("The HEIGHT before an INSTRUCTION of a METHOD without a FAULT;");
        BoundCode x = new BoundCode();
        Code.method(x, 3, 1, 3, "LOAD 0, RETURN");
        Code.method(x, 0, 1, 1, "PUSH 1, DUP, OVER 1, SWAP, CALL 0, IFNOT 9, PUSH 2, RETURN, POP,"
                + "LOOP 3, LOAD 0, STORE 0, END, LOOP 0, POP, END, LOAD 0, RETURN, PUSH 4");
        heights(x, 1, 0, 1, 2, 3, 3, 1, 0, 1, -1, 0, 0, 1, 0, 0, -1, -1, 0, 1, -1);
        heights(x, 0, 0, 1);
    }

    private static void notMet() {
        DUE.sentence("NONE when it is not MET, or the METHOD has a FAULT.");
        BoundCode x = new BoundCode();
        Code.plain(x, "LOOP 4, RETURN, END, RETURN");
        heights(x, 0, 0, 0, -1, -1);
        Code.plain(x, "PUSH 0, IFNOT 5, LOOP 1, RETURN, END, RETURN");
        heights(x, 1, 0, 1, 0, 0, -1, 0);
        Code.plain(x, "LOOP 0, LOOP 5, END, END, RETURN");
        heights(x, 2, 0, -1, -1, -1, 0);
        Code.plain(x, "RETURN, JUMP 3, RETURN, RETURN");
        heights(x, 3, 0, -1, -1, -1);
        Code.plain(x, "JUMP 2, RETURN, RETURN, RETURN");
        heights(x, 4, 0, -1, 0, -1);
        Code.plain(x, "LOOP 1, LOOP 0, RETURN, END, END, RETURN");
        heights(x, 5, 0, 0, -1, -1, 0, 0);
    }

    private static void ofOneWithAFault() {
        DUE.sentence("NONE when it is not MET, or the METHOD has a FAULT.");
        BoundCode x = new BoundCode();
        String[] faults = {"PUSH 1, POP, 99, RETURN", "PUSH 1, POP, END, RETURN",
            "JUMP 2, LOOP 1, END, RETURN", "PUSH 1, POP, CALL 9, RETURN",
            "PUSH 1, POP, POP, RETURN", "PUSH 1, LOOP 1, DUP, END", "PUSH 1, PUSH 1, POP, RETURN",
            "PUSH 1, POP, PUSH 1, POP"};
        for (int m = 0; m < faults.length; m++) {
            Code.plain(x, faults[m]);
            heights(x, m, -1, -1, -1, -1);
        }
        int high = Code.plain(x, Code.times(101, "PUSH 1"));
        DUE.is("height(.., 0) of FAULT 6", x.height(high, 0), BoundCode.NONE);
        DUE.is("height(.., 100) of FAULT 6", x.height(high, 100), BoundCode.NONE);
    }

    private static void noSuchInstruction() {
        DUE.sentence("or the METHOD has a FAULT. IndexOutOfBoundsException: there is none such.");
        BoundCode x = new BoundCode();
        Code.plain(x, "PUSH 1, POP, RETURN");
        Code.plain(x, "POP, POP, POP, POP");
        x.method(0, 0, 0);
        Code.plain(x, Code.times(120, "RETURN"));
        int[] sizes = {3, 4, 0, 120};
        for (int m = 0; m < sizes.length; m++) {
            int method = m;
            int size = sizes[m];
            for (int i : new int[] {-1, size, size + 1, Integer.MIN_VALUE, Integer.MAX_VALUE}) {
                DUE.noMethod("height(" + m + ", " + i + ")", () -> x.height(method, i));
            }
        }
        DUE.is("height of the last of 3", x.height(0, 2), 0);
        DUE.is("height of the last of 4", x.height(1, 3), BoundCode.NONE);
        DUE.is("height of the first of 120", x.height(3, 0), 0);
        DUE.is("height of the last of 120", x.height(3, 119), BoundCode.NONE);
        x.change(3, 0, 12, 119);
        DUE.is("height of the last of 120, MET", x.height(3, 119), 0);
    }

    private static void noSuchMethod() {
        DUE.sentence("or the METHOD has a FAULT. IndexOutOfBoundsException: there is none such.");
        BoundCode x = new BoundCode();
        Code.plain(x, "RETURN");
        Code.plain(x, "RETURN");
        for (int m : new int[] {-1, 2, 31, 32, Integer.MIN_VALUE, Integer.MAX_VALUE}) {
            DUE.noMethod("height(" + m + ", 0)", () -> x.height(m, 0));
        }
        DUE.is("height(0, 0)", x.height(0, 0), 0);
        DUE.is("height(1, 0)", x.height(1, 0), 0);
    }

    /** Whatever was checked before, and without a check. */
    private static void followsChanges() {
        DUE.sentence("The HEIGHT before an INSTRUCTION of a METHOD without a FAULT;");
        BoundCode x = new BoundCode();
        Code.method(x, 3, 1, 3, "LOAD 0, RETURN");
        heights(x, 0, 0, 1);
        x.change(0, 1, 1, 0);
        heights(x, 0, -1, -1);
        x.change(0, 0, 0, 5);
        x.change(0, 1, 17, 0);
        heights(x, 0, 0, 1);
        x.change(0, 1, 16, 1);
        heights(x, 0, -1, -1);
        x.add(0, 17, 0);
        x.method(1, 1, 1);
        heights(x, 0, 0, 1, 1);
    }
}
