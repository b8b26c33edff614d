/** Promise 10: told. */
public final class P10ToldTest {
    private static final Due DUE = new Due();

    public static void main(String[] args) {
        BoundCode x = new BoundCode();
        Code.plain(x, "CALL 1, CALL 2, RETURN");
        Code.plain(x, "CALL 2, RETURN");
        Code.plain(x, "CALL 1, CALL 3, RETURN");
        Code.plain(x, "RETURN, CALL 4");
        Code.plain(x, "CALL 4, RETURN");
        told(x, "before an analyse", "00000", "00000", "00000");
        DUE.is("analyse(0)", x.analyse(0), 2);
        told(x, "of a cycle", "11110", "00000", "01100");
        x.change(3, 0, 1, 0);
        told(x, "of the last one, not of now", "11110", "00000", "01100");
        DUE.noMethod("analyse(5)", () -> x.analyse(5));
        told(x, "after one that threw", "11110", "00000", "01100");
        DUE.is("analyse(0)", x.analyse(0), 1);
        told(x, "of a FAULT and a cycle", "11110", "00010", "00000");
        DUE.is("analyse(4)", x.analyse(4), 2);
        told(x, "of one that CALLS itself", "00001", "00000", "00001");
        DUE.is("analyse(3)", x.analyse(3), 1);
        told(x, "of one with a FAULT", "00010", "00010", "00000");
        x.change(2, 0, 16, 3);
        x.change(2, 1, 1, 0);
        DUE.is("analyse(0)", x.analyse(0), 1);
        told(x, "CALLS of one with a FAULT are not followed", "11100", "00100", "00000");
        x.change(2, 1, 99, 0);
        DUE.is("analyse(0)", x.analyse(0), 1);
        told(x, "nor with one of another kind", "11100", "00100", "00000");
        x.change(2, 1, 12, 2);
        x.change(2, 0, 17, 0);
        DUE.is("analyse(0)", x.analyse(0), 0);
        told(x, "without", "11100", "00000", "00000");
        x.method(0, 0, 0);
        DUE.is("told of a METHOD that is newer", x.told(5, 0), 0);
        wrong(x);
        lastBit();
        DUE.end();
    }

    private static void told(BoundCode x, String when, String... due) {
        for (int what = 0; what < due.length; what++) {
            for (int m = 0; m < due[what].length(); m++) {
                DUE.is("told(" + m + ", " + what + ") " + when, x.told(m, what),
                        due[what].charAt(m) - '0');
            }
        }
    }

    private static void wrong(BoundCode x) {
        DUE.noMethod("told(6, 0)", () -> x.told(6, 0));
        DUE.noMethod("told(-1, 0)", () -> x.told(-1, 0));
        DUE.noMethod("told(0, 3)", () -> x.told(0, 3));
        DUE.noMethod("told(0, -1)", () -> x.told(0, -1));
        DUE.noMethod("told(32, 0)", () -> x.told(32, 0));
    }

    private static void lastBit() {
        BoundCode x = new BoundCode();
        for (int m = 0; m < 32; m++) {
            Code.plain(x, "CALL " + (m < 31 ? m + 1 : 31) + ", RETURN");
        }
        DUE.is("analyse(0) of 32", x.analyse(0), 2);
        DUE.is("told(31, 0)", x.told(31, 0), 1);
        DUE.is("told(31, 2)", x.told(31, 2), 1);
        DUE.is("told(30, 2)", x.told(30, 2), 0);
        x.change(31, 0, 1, 0);
        DUE.is("analyse(0) of 32", x.analyse(0), 1);
        DUE.is("told(31, 1)", x.told(31, 1), 1);
        DUE.is("told(30, 1)", x.told(30, 1), 0);
    }
}
