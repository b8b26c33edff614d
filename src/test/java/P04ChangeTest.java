/** Promise 4: change. */
public final class P04ChangeTest {
    private static final Due DUE = new Due();

    public static void main(String[] args) {
        becomesAnother();
        operationBefore();
        noSuchInstruction();
        noSuchMethod();
        full();
        DUE.end();
    }

    private static void becomesAnother() {
        DUE.sentence("An INSTRUCTION becomes another one.");
        BoundCode x = new BoundCode();
        Code.method(x, 0, 1, 0, "PUSH 1, PUSH 2, SUB, RETURN");
        x.run(0, 9);
        DUE.is("result", x.ran(0), -1);
        x.change(0, 0, 0, 8);
        x.run(0, 9);
        DUE.is("result with another ARG", x.ran(0), 6);
        x.change(0, 2, 6, 0);
        x.run(0, 9);
        DUE.is("result with another OPERATION", x.ran(0), 16);
        x.change(0, 3, 1, 0);
        DUE.is("check without RETURN", x.check(0), 9);
        DUE.is("height of a FAULT", x.height(0, 1), BoundCode.NONE);
        x.change(0, 3, 17, 0);
        DUE.is("check with RETURN", x.check(0), 0);
        DUE.is("height again", x.height(0, 1), 1);
        DUE.is("INSTRUCTIONS stay as many", x.about(0, 3), 4);
        x.change(0, 1, 0, 2);
        DUE.is("the same once more", x.check(0), 0);
    }

    private static void operationBefore() {
        DUE.sentence("Answers its OPERATION before.");
        BoundCode x = new BoundCode();
        Code.plain(x, "RETURN");
        int before = 17;
        int[] far = {-1, 18, Integer.MIN_VALUE, Integer.MAX_VALUE, 99};
        for (int k = 0; k < 18 + far.length; k++) {
            int operation = k < 18 ? k : far[k - 18];
            DUE.is("change to " + operation, x.change(0, 0, operation, 0), before);
            before = operation;
        }
        x.change(0, 0, -1, 5);
        DUE.is("an OPERATION of -1 is no NONE", x.change(0, 0, 17, 0), -1);
        DUE.is("it became another one", x.check(0), 0);
    }

    private static void noSuchInstruction() {
        DUE.sentence("Answers its OPERATION before. IndexOutOfBoundsException: there is none "
                + "such.");
        BoundCode x = new BoundCode();
        Code.plain(x, "PUSH 1, POP, RETURN");
        Code.plain(x, "PUSH 1, POP, PUSH 1, POP, RETURN");
        x.method(0, 0, 0);
        for (int i : new int[] {-1, 3, 4, 119, 120, Integer.MIN_VALUE, Integer.MAX_VALUE}) {
            DUE.noMethod("change(0, " + i + ", 99, 0)", () -> x.change(0, i, 99, 0));
        }
        for (int i : new int[] {-1, 0, 1}) {
            DUE.noMethod("change(2, " + i + ", 17, 0) of one without any",
                    () -> x.change(2, i, 17, 0));
        }
        DUE.is("check of what was there", x.check(0), 0);
        DUE.is("INSTRUCTIONS of what was there", x.about(0, 3), 3);
        DUE.is("INSTRUCTIONS of one without any", x.about(2, 3), 0);
        DUE.is("the first one", x.change(0, 0, 0, 1), 0);
        DUE.is("the last one", x.change(0, 2, 17, 0), 17);
        x.add(2, 17, 0);
        DUE.is("the only one", x.change(2, 0, 1, 0), 17);
    }

    private static void noSuchMethod() {
        DUE.sentence("Answers its OPERATION before. IndexOutOfBoundsException: there is none "
                + "such.");
        BoundCode x = new BoundCode();
        Code.plain(x, "RETURN");
        Code.plain(x, "RETURN");
        for (int m : new int[] {-1, 2, 31, 32, Integer.MIN_VALUE, Integer.MAX_VALUE}) {
            DUE.noMethod("change(" + m + ", 0, 1, 0)", () -> x.change(m, 0, 1, 0));
        }
        DUE.is("check(0)", x.check(0), 0);
        DUE.is("check(1)", x.check(1), 0);
        DUE.is("change(0, 0, 1, 0)", x.change(0, 0, 1, 0), 17);
        DUE.is("change(1, 0, 1, 0)", x.change(1, 0, 1, 0), 17);
    }

    private static void full() {
        DUE.sentence("An INSTRUCTION becomes another one.");
        BoundCode x = new BoundCode();
        Code.plain(x, Code.times(120, "RETURN"));
        DUE.is("the last of 120", x.change(0, 119, 99, 0), 17);
        DUE.is("check", x.check(0), 1);
        DUE.is("place", x.place(), 119);
        DUE.is("the last of 120", x.change(0, 119, 17, 0), 99);
        DUE.noMethod("behind the last of 120", () -> x.change(0, 120, 99, 0));
        DUE.is("check", x.check(0), 0);
    }
}
