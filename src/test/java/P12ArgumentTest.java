/** Promise 12: argument. */
public final class P12ArgumentTest {
    private static final Due DUE = new Due();

    public static void main(String[] args) {
        comesBehind();
        atMostEight();
        anyWord();
        usedUp();
        stay();
        DUE.end();
    }

    /** METHOD 0 has 8 ARGUMENTS, METHOD 1 has 2, METHOD 2 none. */
    private static BoundCode three() {
        BoundCode x = new BoundCode();
        String[] loads = new String[8];
        for (int k = 0; k < 8; k++) {
            loads[k] = "PUSH 10, MUL, LOAD " + k + ", ADD";
        }
        Code.method(x, 8, 1, 8, "PUSH 0," + String.join(",", loads) + ", RETURN");
        Code.method(x, 2, 1, 2, "LOAD 0, LOAD 1, SUB, RETURN");
        Code.method(x, 0, 1, 0, "PUSH 5, RETURN");
        return x;
    }

    private static void give(BoundCode x, int... words) {
        for (int k = 0; k < words.length; k++) {
            DUE.is("argument " + words[k], x.argument(words[k]), k + 1);
        }
    }

    private static void comesBehind() {
        DUE.sentence("A word comes behind those for the next run(). Answers how many there are.");
        BoundCode x = three();
        give(x, 7, 2);
        DUE.is("run of two", x.run(1, 100), 1);
        DUE.is("in their order", x.ran(0), 5);
        give(x, 1, 2, 3, 4, 5, 6, 7, 8);
        DUE.is("run of eight", x.run(0, 100), 1);
        DUE.is("in their order", x.ran(0), 12345678);
        BoundCode none = new BoundCode();
        DUE.is("without METHODS", none.argument(3), 1);
    }

    private static void atMostEight() {
        DUE.sentence("IllegalStateException: there are eight.");
        BoundCode x = three();
        give(x, 8, 7, 6, 5, 4, 3, 2, 1);
        for (int k = 0; k < 3; k++) {
            DUE.refused("argument 9", IllegalStateException.class, () -> x.argument(9));
        }
        DUE.is("run of eight", x.run(0, 100), 1);
        DUE.is("they are as they were", x.ran(0), 87654321);
        give(x, 1, 2, 3, 4, 5, 6, 7, 9);
        DUE.refused("argument 9 again", IllegalStateException.class, () -> x.argument(9));
        BoundCode none = new BoundCode();
        give(none, 1, 2, 3, 4, 5, 6, 7, 8);
        DUE.refused("without METHODS", IllegalStateException.class, () -> none.argument(0));
    }

    private static void anyWord() {
        DUE.sentence("A word comes behind those for the next run().");
        BoundCode x = three();
        x.argument(Long.MIN_VALUE);
        x.argument(Long.MAX_VALUE);
        DUE.is("run of MIN and MAX", x.run(1, 100), 1);
        DUE.is("MIN - MAX", x.ran(0), 1);
        x.argument(-1);
        x.argument(0);
        DUE.is("run of -1 and 0", x.run(1, 100), 1);
        DUE.is("-1 - 0", x.ran(0), -1);
    }

    private static void usedUp() {
        DUE.sentence("A RUN of a METHOD with these words, which are used up,");
        BoundCode x = three();
        give(x, 7, 2);
        x.run(1, 100);
        DUE.badArgument("the words once more", () -> x.run(1, 100));
        give(x, 3);
        DUE.badArgument("one is there", () -> x.run(1, 100));
        DUE.is("a second one", x.argument(1), 2);
        DUE.is("run that is cut short", x.run(1, 1), 2);
        give(x, 4, 5);
        DUE.is("run of nothing", x.run(1, 0), 2);
        x.change(1, 2, 1, 0);
        x.change(1, 3, 1, 0);
        give(x, 4, 5);
        DUE.is("run of a FAULT", x.run(1, 100), 4);
        x.change(1, 2, 16, 1);
        x.change(1, 3, 17, 0);
        give(x, 4, 5);
        DUE.is("run too deep", x.run(1, 10000), 3);
        DUE.is("run without words", x.run(2, 10), 1);
        give(x, 6);
    }

    private static void stay() {
        DUE.sentence("there are not as many words as it has ARGUMENTS (they stay)");
        BoundCode x = three();
        give(x, 6);
        DUE.badArgument("one of two", () -> x.run(1, 100));
        DUE.is("it stayed", x.argument(4), 2);
        DUE.badArgument("two of eight", () -> x.run(0, 100));
        DUE.badArgument("two of none", () -> x.run(2, 100));
        DUE.badArgument("most -1", () -> x.run(1, -1));
        DUE.badArgument("most 100001", () -> x.run(1, 100001));
        DUE.noMethod("no METHOD", () -> x.run(3, 100));
        DUE.is("run of two", x.run(1, 100), 1);
        DUE.is("they stayed", x.ran(0), 2);
    }
}
