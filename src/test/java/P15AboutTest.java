/** Promise 15: about. */
public final class P15AboutTest {
    private static final Due DUE = new Due();

    public static void main(String[] args) {
        leastAndMost();
        followsAdd();
        noSuchMethod();
        noSuchWhat();
        DUE.end();
    }

    private static void about(BoundCode x, int m, int... due) {
        for (int what = 0; what < due.length; what++) {
            DUE.is("about(" + m + ", " + what + ")", x.about(m, what), due[what]);
        }
    }

    private static void leastAndMost() {
        DUE.sentence("each has ARGUMENTS (0 .. 8), RESULTS (0 or 1), LOCALS (at most 16, the "
                + "ARGUMENTS first) and INSTRUCTIONS (at most 120), with numbers from 0 on.");
        BoundCode x = new BoundCode();
        x.method(0, 0, 0);
        x.method(8, 1, 16);
        x.method(8, 1, 8);
        x.method(3, 0, 5);
        about(x, 0, 0, 0, 0, 0);
        about(x, 1, 8, 1, 16, 0);
        about(x, 2, 8, 1, 8, 0);
        about(x, 3, 3, 0, 5, 0);
        Code.append(x, 3, Code.times(119, "99"));
        about(x, 3, 3, 0, 5, 119);
        x.add(3, 99, 0);
        about(x, 3, 3, 0, 5, 120);
        x.add(3, 99, 0);
        about(x, 3, 3, 0, 5, 120);
        about(x, 2, 8, 1, 8, 0);
    }

    private static void followsAdd() {
        DUE.sentence("Of a METHOD: ARGUMENTS (what = 0), RESULTS (1), LOCALS (2), INSTRUCTIONS "
                + "(3).");
        BoundCode x = new BoundCode();
        x.method(1, 0, 2);
        x.method(4, 1, 6);
        for (int size = 0; size < 4; size++) {
            about(x, 0, 1, 0, 2, size);
            about(x, 1, 4, 1, 6, 0);
            x.add(0, 17, 0);
        }
        x.change(0, 1, 99, 0);
        x.check(0);
        x.analyse(1);
        about(x, 0, 1, 0, 2, 4);
        about(x, 1, 4, 1, 6, 0);
    }

    private static void noSuchMethod() {
        DUE.sentence("IndexOutOfBoundsException: also of what.");
        BoundCode x = new BoundCode();
        DUE.noMethod("about(0, 0) of none", () -> x.about(0, 0));
        for (int count = 1; count <= 32; count++) {
            int behind = count;
            x.method(count % 9, 0, 16);
            about(x, count - 1, count % 9, 0, 16, 0);
            DUE.noMethod("about(" + behind + ", 0)", () -> x.about(behind, 0));
        }
        for (int m : new int[] {-1, 33, Integer.MIN_VALUE, Integer.MAX_VALUE}) {
            for (int what = -1; what <= 4; what++) {
                int asked = what;
                DUE.noMethod("about(" + m + ", " + what + ")", () -> x.about(m, asked));
            }
        }
    }

    private static void noSuchWhat() {
        DUE.sentence("IndexOutOfBoundsException: also of what.");
        BoundCode x = new BoundCode();
        x.method(8, 1, 16);
        for (int what : new int[] {-1, 4, Integer.MIN_VALUE, Integer.MAX_VALUE}) {
            DUE.noMethod("about(0, " + what + ")", () -> x.about(0, what));
        }
        about(x, 0, 8, 1, 16, 0);
    }
}
