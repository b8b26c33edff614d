/** Promise 6: check; P06FormsTest and P06HeightsTest go through the FAULTS. */
public final class P06CheckTest {
    private static final Due DUE = new Due();
    private static final String[] FAULTS = {"RETURN", "99, RETURN", "END, RETURN",
        "JUMP 2, LOOP 1, END, RETURN", "CALL 32, RETURN", "POP, RETURN",
        Code.times(101, "PUSH 1"), "LOOP 1, PUSH 1, END, RETURN", "PUSH 1, RETURN", "PUSH 1"};
    private static final int[] PLACES = {-1, 0, 0, 0, 0, 0, 100, 2, 1, 0};

    public static void main(String[] args) {
        everyFault();
        noSuchMethod();
        leastInstruction();
        formsFirst();
        ofNow();
        DUE.end();
    }

    private static void everyFault() {
        DUE.sentence("A METHOD is CHECKED. Answers 0, or the FAULT.");
        BoundCode x = new BoundCode();
        for (String lines : FAULTS) {
            Code.plain(x, lines);
        }
        for (int fault = 9; fault >= 0; fault--) {
            DUE.is("check(" + fault + ")", x.check(fault), fault);
            DUE.is("place of " + fault, x.place(), PLACES[fault]);
            DUE.is("check(" + fault + ") once more", x.check(fault), fault);
        }
    }

    private static void noSuchMethod() {
        DUE.sentence("Answers 0, or the FAULT. IndexOutOfBoundsException: there is no such "
                + "METHOD.");
        BoundCode x = new BoundCode();
        DUE.noMethod("check(0) of none", () -> x.check(0));
        for (int count = 1; count <= 32; count++) {
            int behind = count;
            Code.plain(x, "PUSH 1, RETURN");
            DUE.is("check of the last of " + count, x.check(count - 1), 8);
            DUE.noMethod("check(" + behind + ")", () -> x.check(behind));
        }
        for (int m : new int[] {-1, 33, Integer.MIN_VALUE, Integer.MAX_VALUE}) {
            DUE.noMethod("check(" + m + ")", () -> x.check(m));
        }
        DUE.is("place of the last that did not throw", x.place(), 1);
    }

    private static void fault(String lines, int fault, int place) {
        BoundCode x = new BoundCode();
        Code.plain(x, lines);
        DUE.is(lines + ": check", x.check(0), fault);
        DUE.is(lines + ": place", x.place(), place);
    }

    private static void leastInstruction() {
        DUE.sentence("FAULTS, at the least INSTRUCTION, and there the least");
        fault("CALL 9, JUMP 3, LOOP 1, END, END, 99", 4, 0);
        fault("JUMP 2, LOOP 1, END, END, CALL 9, 99", 3, 0);
        fault("END, JUMP 3, LOOP 1, END, CALL 9, 99", 2, 0);
        fault("99, JUMP 3, LOOP 1, END, CALL 9, END", 1, 0);
        fault("RETURN, RETURN, CALL 9, 99", 4, 2);
        fault("RETURN, RETURN, 99, CALL 9", 1, 2);
        fault("RETURN, END, LOOP -1", 2, 1);
        fault("LOOP -1, RETURN", 1, 0);
        fault("LOOP 1000000001, RETURN", 1, 0);
        fault("END 1, RETURN", 1, 0);
        fault("LOOP 1, RETURN, LOOP -1", 2, 0);
        fault(Code.times(8, "LOOP 1") + ",LOOP -1," + Code.times(9, "END") + ",RETURN", 1, 8);
        fault(Code.times(8, "LOOP 1") + ",LOOP 1," + Code.times(9, "END 1") + ",RETURN", 2, 8);
    }

    private static void formsFirst() {
        DUE.sentence("These all first; then, going along from the first one:");
        fault("POP, POP, 99", 1, 2);
        fault("POP, POP, END", 2, 2);
        fault("POP, JUMP 3, LOOP 1, END", 3, 1);
        fault("POP, POP, CALL 1", 4, 2);
        fault("POP, CALL 9, END", 4, 1);
        fault("POP, END, CALL 9", 2, 1);
        fault("RETURN, 99", 1, 1);
        fault("RETURN, END", 2, 1);
        fault("RETURN, JUMP 3, LOOP 1, END", 3, 1);
        fault("RETURN, CALL 1", 4, 1);
        fault("LOOP 0, 99, END, RETURN", 1, 1);
        fault("POP, PUSH 1", 5, 0);
        fault("PUSH 1, POP, POP, PUSH 1", 5, 2);
    }

    private static void ofNow() {
        DUE.sentence("A METHOD is CHECKED.");
        BoundCode x = new BoundCode();
        Code.plain(x, "CALL 1, RETURN");
        DUE.is("CALL of one that is not there", x.check(0), 4);
        x.method(1, 0, 1);
        DUE.is("CALL of one that came, with an ARGUMENT", x.check(0), 5);
        x.change(0, 0, 16, 0);
        DUE.is("CALL of itself", x.check(0), 0);
        DUE.is("a FAULT of another METHOD is its own", x.check(1), 9);
    }
}
