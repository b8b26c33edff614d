/** Promise 1: a new object has no METHODS, and tells of nothing. */
public final class P01NewObjectTest {
    private static final Due DUE = new Due();

    public static void main(String[] args) {
        constants();
        noMethods();
        nothingToldYet();
        objectsAreApart();
        DUE.end();
    }

    private static void constants() {
        DUE.sentence("public static final int NONE = -1;");
        DUE.is("NONE", BoundCode.NONE, -1);
    }

    private static void noMethods() {
        DUE.sentence("`BoundCode()`: No METHODS.");
        BoundCode x = new BoundCode();
        for (int m : new int[] {0, 1, 31, 32, -1, Integer.MIN_VALUE, Integer.MAX_VALUE}) {
            DUE.noMethod("add(" + m + ", 17, 0)", () -> x.add(m, 17, 0));
            DUE.noMethod("change(" + m + ", 0, 17, 0)", () -> x.change(m, 0, 17, 0));
            DUE.noMethod("check(" + m + ")", () -> x.check(m));
            DUE.noMethod("height(" + m + ", 0)", () -> x.height(m, 0));
            DUE.noMethod("analyse(" + m + ")", () -> x.analyse(m));
            DUE.noMethod("told(" + m + ", 0)", () -> x.told(m, 0));
            DUE.noMethod("bound(" + m + ", 0)", () -> x.bound(m, 0));
            DUE.noMethod("run(" + m + ", 1)", () -> x.run(m, 1));
            DUE.noMethod("about(" + m + ", 0)", () -> x.about(m, 0));
        }
        DUE.is("the first METHOD", x.method(0, 0, 0), 0);
    }

    private static void nothingToldYet() {
        BoundCode x = new BoundCode();
        DUE.sentence("NONE when it had none, or before one.");
        DUE.is("place()", x.place(), BoundCode.NONE);
        DUE.sentence("Of the last run(), 0 before one");
        for (int what = 0; what <= 4; what++) {
            DUE.is("ran(" + what + ")", x.ran(what), 0);
        }
        DUE.sentence("A word comes behind those for the next run(). Answers how many there are.");
        DUE.is("argument(7)", x.argument(7), 1);
        DUE.sentence("Each OPERATION has a COST, 0 .. 1000000 cycles, at first 1.");
        for (int operation = 0; operation <= 17; operation++) {
            DUE.is("cost(" + operation + ", 1)", x.cost(operation, 1), 1);
        }
    }

    private static void objectsAreApart() {
        DUE.sentence("`BoundCode()`: No METHODS.");
        BoundCode x = new BoundCode();
        x.method(0, 0, 0);
        x.argument(1);
        x.cost(0, 9);
        x.check(0);
        BoundCode y = new BoundCode();
        DUE.noMethod("about(0, 0) of another object", () -> y.about(0, 0));
        DUE.is("argument(1) of another object", y.argument(1), 1);
        DUE.is("cost(0, 1) of another object", y.cost(0, 1), 1);
        DUE.is("place() of another object", y.place(), BoundCode.NONE);
        DUE.is("cost(0, 1) of the first object", x.cost(0, 1), 9);
    }
}
