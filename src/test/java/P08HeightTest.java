/** Promise 8: height. */
public final class P08HeightTest {
    private static final Due DUE = new Due();

    public static void main(String[] args) {
        BoundCode x = new BoundCode();
        Code.method(x, 3, 1, 3, "LOAD 0, RETURN");
        Code.method(x, 0, 1, 1, "PUSH 1, DUP, OVER 1, SWAP, CALL 0, IFNOT 9, PUSH 2, RETURN, POP,"
                + "LOOP 3, LOAD 0, STORE 0, END, LOOP 0, POP, END, LOAD 0, RETURN, PUSH 4");
        heights(x, 1, 0, 1, 2, 3, 3, 1, 0, 1, -1, 0, 0, 1, 0, 0, -1, -1, 0, 1, -1);
        heights(x, 0, 0, 1);
        x.method(0, 0, 0);
        DUE.noMethod("height(3, 0)", () -> x.height(3, 0));
        DUE.noMethod("height(-1, 0)", () -> x.height(-1, 0));
        DUE.noMethod("height(0, 2)", () -> x.height(0, 2));
        DUE.noMethod("height(0, -1)", () -> x.height(0, -1));
        DUE.noMethod("height(2, 0)", () -> x.height(2, 0));
        followsChanges(x);
        unmetInLoops();
        DUE.end();
    }

    private static void heights(BoundCode x, int method, int... due) {
        for (int i = 0; i < due.length; i++) {
            DUE.is("height(" + method + ", " + i + ")", x.height(method, i), due[i]);
        }
    }

    private static void followsChanges(BoundCode x) {
        x.change(0, 1, 1, 0);
        heights(x, 0, -1, -1);
        x.change(0, 0, 0, 5);
        x.change(0, 1, 17, 0);
        heights(x, 0, 0, 1);
        x.change(0, 1, 16, 3);
        heights(x, 0, -1, -1);
        x.add(0, 17, 0);
        x.method(1, 1, 1);
        heights(x, 0, 0, 1, 1);
    }

    private static void unmetInLoops() {
        BoundCode x = new BoundCode();
        Code.plain(x, "LOOP 4, RETURN, END, RETURN");
        heights(x, 0, 0, 0, -1, -1);
        Code.plain(x, "PUSH 0, IFNOT 5, LOOP 1, RETURN, END, RETURN");
        heights(x, 1, 0, 1, 0, 0, -1, 0);
        Code.plain(x, "LOOP 0, LOOP 5, END, END, RETURN");
        heights(x, 2, 0, -1, -1, -1, 0);
    }
}
