/** Promise 12: argument. */
public final class P12ArgumentTest {
    public static void main(String[] args) {
        Due due = new Due();
        BoundCode x = new BoundCode();
        Code.method(x, 8, 1, 8, "LOAD 0, LOAD 1, SUB, LOAD 2, SUB, LOAD 3, SUB, LOAD 4, SUB,"
                + "LOAD 5, SUB, LOAD 6, SUB, LOAD 7, SUB, RETURN");
        Code.method(x, 2, 1, 2, "LOAD 0, LOAD 1, SUB, RETURN");
        for (int k = 1; k <= 8; k++) {
            due.is("argument " + k, x.argument(1L << (8 * (8 - k) - 1)), k);
        }
        due.refused("argument 9", IllegalStateException.class, () -> x.argument(5));
        due.refused("argument 9 again", IllegalStateException.class, () -> x.argument(5));
        due.is("run of all eight", x.run(0, 100), 1);
        long want = 1L << 55;
        for (int k = 2; k <= 8; k++) {
            want -= k < 8 ? 1L << (8 * (8 - k) - 1) : Long.MIN_VALUE;
        }
        due.is("their result", x.ran(0), want);
        due.is("they are used up", x.argument(7), 1);
        due.is("the second", x.argument(Long.MIN_VALUE), 2);
        due.is("run of two", x.run(1, 100), 1);
        due.is("in their order, wrapping", x.ran(0), 7 - Long.MIN_VALUE);
        due.end();
    }
}
