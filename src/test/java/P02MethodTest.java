/** Promise 2: method. */
public final class P02MethodTest {
    public static void main(String[] args) {
        Due due = new Due();
        wrongNumbers(due);
        atMostThirtyTwo(due);
        due.end();
    }

    private static void wrongNumbers(Due due) {
        BoundCode x = new BoundCode();
        int[][] wrong = {{-1, 0, 0}, {9, 0, 16}, {0, -1, 0}, {0, 2, 0}, {0, 0, -1}, {0, 0, 17},
            {3, 0, 2}, {8, 1, 7}, {Integer.MIN_VALUE, 0, 0}, {Integer.MAX_VALUE, 0, 16},
            {0, Integer.MAX_VALUE, 0}, {0, 0, Integer.MAX_VALUE}};
        for (int[] w : wrong) {
            due.badArgument("method(" + w[0] + ", " + w[1] + ", " + w[2] + ")",
                    () -> x.method(w[0], w[1], w[2]));
        }
        int[][] right = {{0, 0, 0}, {8, 1, 8}, {8, 0, 16}, {0, 1, 16}, {3, 1, 3}};
        for (int k = 0; k < right.length; k++) {
            int[] r = right[k];
            due.is("method(" + r[0] + ", " + r[1] + ", " + r[2] + ")",
                    x.method(r[0], r[1], r[2]), k);
            due.is("INSTRUCTIONS of a new one", x.about(k, 3), 0);
        }
    }

    private static void atMostThirtyTwo(Due due) {
        BoundCode x = new BoundCode();
        for (int k = 0; k < 32; k++) {
            due.is("method " + k, x.method(k % 9, k % 2, 16), k);
        }
        due.is("method 32", x.method(0, 0, 0), BoundCode.NONE);
        due.is("method 32 once more", x.method(1, 1, 1), BoundCode.NONE);
        due.badArgument("method(9, 0, 9) when there are 32", () -> x.method(9, 0, 9));
        due.noMethod("about(32, 0)", () -> x.about(32, 0));
        due.is("about(31, 0)", x.about(31, 0), 31 % 9);
    }
}
