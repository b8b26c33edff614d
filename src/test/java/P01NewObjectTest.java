/** Promise 1: a new object has no METHODS, and tells of nothing. */
public final class P01NewObjectTest {
    public static void main(String[] args) {
        Due due = new Due();
        BoundCode x = new BoundCode();
        due.is("NONE", BoundCode.NONE, -1);
        due.noMethod("add(0, 17, 0)", () -> x.add(0, 17, 0));
        due.noMethod("change(0, 0, 17, 0)", () -> x.change(0, 0, 17, 0));
        due.noMethod("check(0)", () -> x.check(0));
        due.noMethod("height(0, 0)", () -> x.height(0, 0));
        due.noMethod("analyse(0)", () -> x.analyse(0));
        due.noMethod("told(0, 0)", () -> x.told(0, 0));
        due.noMethod("bound(0, 0)", () -> x.bound(0, 0));
        due.noMethod("run(0, 1)", () -> x.run(0, 1));
        due.noMethod("about(0, 0)", () -> x.about(0, 0));
        due.is("place()", x.place(), BoundCode.NONE);
        for (int what = 0; what <= 4; what++) {
            due.is("ran(" + what + ")", x.ran(what), 0);
        }
        due.is("argument(7)", x.argument(7), 1);
        for (int operation = 0; operation <= 17; operation++) {
            due.is("cost(" + operation + ", 1)", x.cost(operation, 1), 1);
        }
        due.is("method(0, 0, 0)", x.method(0, 0, 0), 0);
        objectsAreApart(due, x);
        due.end();
    }

    private static void objectsAreApart(Due due, BoundCode x) {
        BoundCode y = new BoundCode();
        due.noMethod("about(0, 0) of another object", () -> y.about(0, 0));
        due.is("argument(1) of another object", y.argument(1), 1);
        y.cost(0, 9);
        due.is("cost(0, 1) of the first object", x.cost(0, 1), 1);
    }
}
