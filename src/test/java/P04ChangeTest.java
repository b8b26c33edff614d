/** Promise 4: change. */
public final class P04ChangeTest {
    public static void main(String[] args) {
        Due due = new Due();
        BoundCode x = new BoundCode();
        Code.plain(x, "PUSH 1, POP, RETURN");
        x.method(0, 0, 0);
        due.noMethod("change(2, 0, 0, 0)", () -> x.change(2, 0, 0, 0));
        due.noMethod("change(-1, 0, 0, 0)", () -> x.change(-1, 0, 0, 0));
        due.noMethod("change(0, 3, 0, 0)", () -> x.change(0, 3, 0, 0));
        due.noMethod("change(0, -1, 0, 0)", () -> x.change(0, -1, 0, 0));
        due.noMethod("change(1, 0, 0, 0)", () -> x.change(1, 0, 0, 0));
        due.is("check", x.check(0), 0);
        due.is("change(0, 1, 12, 2)", x.change(0, 1, 12, 2), 1);
        due.is("check after it", x.check(0), 8);
        due.is("change(0, 1, 1, 0)", x.change(0, 1, 1, 0), 12);
        due.is("check after it", x.check(0), 0);
        due.is("change(0, 0, 99, 5): any OPERATION", x.change(0, 0, 99, 5), 0);
        due.is("check after it", x.check(0), 1);
        due.is("change(0, 0, -1, 5)", x.change(0, 0, -1, 5), 99);
        due.is("an OPERATION of -1 is no NONE", x.change(0, 0, 0, 5), -1);
        due.is("it became another one", x.check(0), 0);
        due.is("INSTRUCTIONS stay as many", x.about(0, 3), 3);
        due.end();
    }
}
