/** Promise 10: told. */
public final class P10ToldTest {
    private static final Due DUE = new Due();

    public static void main(String[] args) {
        ofTheLastAnalyse();
        faultAndReached();
        comesToItself();
        noSuchMethod();
        noSuchWhat();
        lastOfThirtyTwo();
        DUE.end();
    }

    /** A digit a METHOD, for what = 0, 1 and 2. */
    private static void told(BoundCode x, String when, String... due) {
        for (int what = 0; what < due.length; what++) {
            for (int m = 0; m < due[what].length(); m++) {
                DUE.is("told(" + m + ", " + what + ") " + when, x.told(m, what),
                        due[what].charAt(m) - '0');
            }
        }
    }

    private static BoundCode five() {
        BoundCode x = new BoundCode();
        Code.plain(x, "CALL 1, CALL 2, RETURN");
        Code.plain(x, "CALL 2, RETURN");
        Code.plain(x, "CALL 1, CALL 3, RETURN");
        Code.plain(x, "RETURN, CALL 4");
        Code.plain(x, "CALL 4, RETURN");
        return x;
    }

    private static void ofTheLastAnalyse() {
        DUE.sentence("Of the last analyse(): whether a METHOD is REACHED (what = 0)");
        BoundCode x = five();
        told(x, "before an analyse", "00000", "00000", "00000");
        DUE.is("analyse(0)", x.analyse(0), 2);
        told(x, "of a cycle", "11110", "00000", "01100");
        x.change(3, 0, 1, 0);
        x.change(4, 0, 1, 0);
        told(x, "of the last one, not of now", "11110", "00000", "01100");
        x.check(3);
        x.run(4, 5);
        told(x, "whatever else is asked", "11110", "00000", "01100");
        DUE.noMethod("analyse(5)", () -> x.analyse(5));
        DUE.noMethod("analyse(-1)", () -> x.analyse(-1));
        told(x, "after one that threw", "11110", "00000", "01100");
        x.method(0, 0, 0);
        told(x, "of a METHOD that is newer", "111100", "000000", "011000");
        DUE.is("analyse(5)", x.analyse(5), 1);
        told(x, "of another one", "000001", "000001", "000000");
    }

    private static void faultAndReached() {
        DUE.sentence("has a FAULT and is REACHED (1)");
        BoundCode x = five();
        x.change(4, 0, 1, 0);
        DUE.is("analyse(3)", x.analyse(3), 0);
        told(x, "of a FAULT that is not REACHED", "00010", "00000", "00000");
        x.change(3, 0, 1, 0);
        DUE.is("analyse(3)", x.analyse(3), 1);
        told(x, "of one with a FAULT", "00010", "00010", "00000");
        x.change(1, 0, 1, 0);
        DUE.is("analyse(0)", x.analyse(0), 1);
        told(x, "of two with a FAULT", "11110", "01010", "00000");
        x.change(0, 0, 1, 0);
        DUE.is("analyse(0)", x.analyse(0), 1);
        told(x, "what it CALLS is not followed", "10000", "10000", "00000");
    }

    private static void comesToItself() {
        DUE.sentence("is REACHED and can come to itself (2; 0 when 1 was answered): 1 or 0.");
        BoundCode x = five();
        DUE.is("analyse(4)", x.analyse(4), 2);
        told(x, "of one that CALLS itself", "00001", "00000", "00001");
        DUE.is("analyse(1)", x.analyse(1), 2);
        told(x, "of a cycle of two", "01110", "00000", "01100");
        DUE.is("analyse(3)", x.analyse(3), 0);
        told(x, "of no cycle that is REACHED", "00010", "00000", "00000");
        x.change(3, 0, 1, 0);
        DUE.is("analyse(0)", x.analyse(0), 1);
        told(x, "of a FAULT and a cycle", "11110", "00010", "00000");
        x.change(3, 0, 16, 4);
        x.change(3, 1, 17, 0);
        DUE.is("analyse(0)", x.analyse(0), 2);
        told(x, "of two cycles", "11111", "00000", "01101");
        x.change(2, 0, 16, 3);
        DUE.is("analyse(0)", x.analyse(0), 2);
        told(x, "of one of them", "11111", "00000", "00001");
    }

    private static void noSuchMethod() {
        DUE.sentence("IndexOutOfBoundsException: there is no such METHOD, or another what.");
        BoundCode x = five();
        for (int when = 0; when < 2; when++) {
            for (int m : new int[] {-1, 5, 31, 32, Integer.MIN_VALUE, Integer.MAX_VALUE}) {
                for (int what : new int[] {0, 1, 2, 3}) {
                    DUE.noMethod("told(" + m + ", " + what + ")", () -> x.told(m, what));
                }
            }
            x.analyse(4);
        }
        DUE.is("told(4, 0)", x.told(4, 0), 1);
    }

    private static void noSuchWhat() {
        DUE.sentence("IndexOutOfBoundsException: there is no such METHOD, or another what.");
        BoundCode x = five();
        x.analyse(4);
        for (int m : new int[] {0, 4}) {
            for (int what : new int[] {-1, 3, Integer.MIN_VALUE, Integer.MAX_VALUE}) {
                DUE.noMethod("told(" + m + ", " + what + ")", () -> x.told(m, what));
            }
        }
        told(x, "after those", "00001", "00000", "00001");
    }

    private static void lastOfThirtyTwo() {
        DUE.sentence("METHODS have numbers from 0 on, at most 32");
        BoundCode x = new BoundCode();
        for (int m = 0; m < 32; m++) {
            Code.plain(x, "CALL " + (m < 31 ? m + 1 : 31) + ", RETURN");
        }
        DUE.is("analyse(0) of 32", x.analyse(0), 2);
        DUE.is("told(31, 0)", x.told(31, 0), 1);
        DUE.is("told(31, 2)", x.told(31, 2), 1);
        DUE.is("told(30, 2)", x.told(30, 2), 0);
        x.change(31, 0, 1, 0);
        DUE.is("analyse(0) of 32", x.analyse(0), 1);
        DUE.is("told(31, 1)", x.told(31, 1), 1);
        DUE.is("told(30, 1)", x.told(30, 1), 0);
        DUE.is("analyse(31)", x.analyse(31), 1);
        DUE.is("told(31, 0)", x.told(31, 0), 1);
        DUE.is("told(0, 0)", x.told(0, 0), 0);
    }
}
