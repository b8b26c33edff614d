/** Promise 15: about. */
public final class P15AboutTest {
    public static void main(String[] args) {
        Due due = new Due();
        BoundCode x = new BoundCode();
        x.method(8, 1, 16);
        x.method(3, 0, 5);
        Code.append(x, 1, "PUSH 1, POP, RETURN");
        long[][] want = {{8, 1, 16, 0}, {3, 0, 5, 3}};
        for (int m = 0; m < want.length; m++) {
            for (int what = 0; what < 4; what++) {
                due.is("about(" + m + ", " + what + ")", x.about(m, what), want[m][what]);
            }
        }
        due.noMethod("about(2, 0)", () -> x.about(2, 0));
        due.noMethod("about(-1, 0)", () -> x.about(-1, 0));
        due.noMethod("about(0, 4)", () -> x.about(0, 4));
        due.noMethod("about(0, -1)", () -> x.about(0, -1));
        due.is("about after those", x.about(1, 3), 3);
        due.end();
    }
}
