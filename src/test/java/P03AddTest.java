/** Promise 3: add. */
public final class P03AddTest {
    public static void main(String[] args) {
        Due due = new Due();
        BoundCode x = new BoundCode();
        x.method(0, 0, 0);
        x.method(0, 0, 0);
        due.noMethod("add(2, 0, 0)", () -> x.add(2, 0, 0));
        due.noMethod("add(-1, 0, 0)", () -> x.add(-1, 0, 0));
        due.noMethod("add(MAX, 0, 0)", () -> x.add(Integer.MAX_VALUE, 0, 0));
        due.is("add(0, 17, 0)", x.add(0, 17, 0), 0);
        due.is("add(1, 17, 0): numbers are of each METHOD", x.add(1, 17, 0), 0);
        due.is("add(1, -5, MIN): any OPERATION and ARG",
                x.add(1, -5, Long.MIN_VALUE), 1);
        for (int i = 1; i < 120; i++) {
            due.is("add number " + i, x.add(0, 17, 0), i);
        }
        due.is("add number 120", x.add(0, 0, 0), BoundCode.NONE);
        due.is("INSTRUCTIONS when full", x.about(0, 3), 120);
        due.is("check of 120", x.check(0), 0);
        due.is("add to the other one", x.add(1, 0, 0), 2);
        checkSeesTheNewOne(due);
        due.end();
    }

    private static void checkSeesTheNewOne(Due due) {
        BoundCode x = new BoundCode();
        Code.plain(x, "RETURN");
        due.is("check before", x.check(0), 0);
        x.add(0, 99, 0);
        due.is("check after", x.check(0), 1);
        due.is("place after", x.place(), 1);
    }
}
