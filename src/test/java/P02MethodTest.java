/** Promise 2: method. */
public final class P02MethodTest {
    private static final Due DUE = new Due();

    public static void main(String[] args) {
        withoutInstructions();
        atMostThirtyTwo();
        arguments();
        results();
        locals();
        nothingIsMade();
        DUE.end();
    }

    private static void withoutInstructions() {
        DUE.sentence("A new METHOD without INSTRUCTIONS.");
        BoundCode x = new BoundCode();
        Code.plain(x, "PUSH 1, POP, RETURN");
        x.method(0, 0, 0);
        DUE.is("INSTRUCTIONS", x.about(1, 3), 0);
        DUE.noMethod("height(1, 0)", () -> x.height(1, 0));
        DUE.noMethod("change(1, 0, 17, 0)", () -> x.change(1, 0, 17, 0));
        DUE.is("check(1)", x.check(1), 9);
        DUE.is("its first INSTRUCTION", x.add(1, 17, 0), 0);
        DUE.is("INSTRUCTIONS of the one before", x.about(0, 3), 3);
    }

    private static void atMostThirtyTwo() {
        DUE.sentence("METHODS have numbers from 0 on, at most 32");
        BoundCode x = new BoundCode();
        for (int k = 0; k < 32; k++) {
            DUE.is("method " + k, x.method(k % 9, k % 2, 16 - k % 8), k);
        }
        for (int k = 0; k < 32; k++) {
            DUE.is("ARGUMENTS of " + k, x.about(k, 0), k % 9);
        }
        DUE.noMethod("about(32, 0)", () -> x.about(32, 0));
        DUE.sentence("Answers its number; NONE when there are 32.");
        DUE.is("method 32", x.method(0, 0, 0), BoundCode.NONE);
        DUE.is("method 32 once more", x.method(8, 1, 16), BoundCode.NONE);
        DUE.noMethod("about(32, 0)", () -> x.about(32, 0));
        DUE.badArgument("method(9, 0, 9) when there are 32", () -> x.method(9, 0, 9));
        for (int k = 0; k < 32; k++) {
            DUE.is("ARGUMENTS of " + k, x.about(k, 0), k % 9);
            DUE.is("RESULTS of " + k, x.about(k, 1), k % 2);
            DUE.is("LOCALS of " + k, x.about(k, 2), 16 - k % 8);
            DUE.is("INSTRUCTIONS of " + k, x.about(k, 3), 0);
        }
    }

    private static void arguments() {
        DUE.sentence("ARGUMENTS are not 0 .. 8");
        taken(0, 0, 16);
        refused(-1, 0, 16);
        refused(-1, 0, -1);
        taken(8, 0, 16);
        refused(9, 0, 16);
        refused(9, 0, 9);
        refused(Integer.MIN_VALUE, 0, 16);
        refused(Integer.MAX_VALUE, 0, 16);
    }

    private static void results() {
        DUE.sentence("RESULTS not 0 or 1");
        refused(0, -1, 0);
        taken(0, 0, 0);
        taken(0, 1, 0);
        refused(0, 2, 0);
        refused(0, Integer.MIN_VALUE, 0);
        refused(0, Integer.MAX_VALUE, 0);
    }

    private static void locals() {
        DUE.sentence("LOCALS not from the ARGUMENTS up to 16");
        for (int arguments = 0; arguments <= 8; arguments++) {
            refused(arguments, 0, arguments - 1);
            taken(arguments, 0, arguments);
            taken(arguments, 0, 16);
            refused(arguments, 0, 17);
        }
        refused(0, 0, Integer.MIN_VALUE);
        refused(0, 0, Integer.MAX_VALUE);
    }

    private static void nothingIsMade() {
        DUE.sentence("a call that throws, or answers NONE, changes nothing.");
        BoundCode x = new BoundCode();
        DUE.is("the first one", x.method(1, 0, 1), 0);
        DUE.badArgument("method(9, 0, 16)", () -> x.method(9, 0, 16));
        DUE.badArgument("method(0, 2, 0)", () -> x.method(0, 2, 0));
        DUE.badArgument("method(0, 0, 17)", () -> x.method(0, 0, 17));
        DUE.noMethod("about(1, 0)", () -> x.about(1, 0));
        DUE.is("the second one", x.method(2, 0, 2), 1);
    }

    private static void taken(int arguments, int results, int locals) {
        BoundCode x = new BoundCode();
        String call = "method(" + arguments + ", " + results + ", " + locals + ")";
        DUE.is(call, x.method(arguments, results, locals), 0);
        DUE.is(call + ": ARGUMENTS", x.about(0, 0), arguments);
        DUE.is(call + ": RESULTS", x.about(0, 1), results);
        DUE.is(call + ": LOCALS", x.about(0, 2), locals);
    }

    private static void refused(int arguments, int results, int locals) {
        BoundCode x = new BoundCode();
        DUE.badArgument("method(" + arguments + ", " + results + ", " + locals + ")",
                () -> x.method(arguments, results, locals));
    }
}
