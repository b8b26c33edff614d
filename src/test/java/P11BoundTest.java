/** Promise 11: bound; P11StackTest and P11TimeTest count the bounds themselves. */
public final class P11BoundTest {
    private static final Due DUE = new Due();

    public static void main(String[] args) {
        byTheLastAnalyse();
        answeredOtherwise();
        notReached();
        aboveTheLongest();
        noSuchMethod();
        noSuchWhat();
        DUE.end();
    }

    private static void bounds(BoundCode x, String when, int m, long stack, long time) {
        DUE.is("bound(" + m + ", 0) " + when, x.bound(m, 0), stack);
        DUE.is("bound(" + m + ", 1) " + when, x.bound(m, 1), time);
    }

    private static BoundCode five() {
        BoundCode x = new BoundCode();
        Code.plain(x, "CALL 1, RETURN");
        Code.method(x, 0, 0, 3, "RETURN");
        Code.plain(x, "CALL 2, RETURN");
        Code.plain(x, "POP");
        Code.method(x, 0, 0, 1, Code.times(3, "LOOP 1000000000") + ", CALL 1,"
                + Code.times(3, "END") + ",RETURN");
        return x;
    }

    private static void byTheLastAnalyse() {
        DUE.sentence("The bounds of a METHOD by the last analyse()");
        BoundCode x = five();
        bounds(x, "before an analyse", 0, -1, -1);
        DUE.is("analyse(0)", x.analyse(0), 0);
        bounds(x, "of itself", 0, 5, 3);
        bounds(x, "of what it CALLS", 1, 3, 1);
        x.change(1, 0, 1, 0);
        x.cost(16, 100);
        x.check(1);
        x.run(1, 5);
        bounds(x, "as it was then", 0, 5, 3);
        DUE.noMethod("analyse(5)", () -> x.analyse(5));
        DUE.noMethod("analyse(-1)", () -> x.analyse(-1));
        bounds(x, "after one that threw", 0, 5, 3);
        x.method(0, 0, 0);
        bounds(x, "of one that is newer", 5, -1, -1);
        bounds(x, "beside one that is newer", 0, 5, 3);
        x.change(1, 0, 17, 0);
        DUE.is("analyse(0)", x.analyse(0), 0);
        bounds(x, "as it is now", 0, 5, 102);
        x.analyse(1);
        bounds(x, "of the last one", 1, 3, 1);
        bounds(x, "of the one before", 0, -1, -1);
    }

    private static void answeredOtherwise() {
        DUE.sentence("if that answered 0 or 3 and it is REACHED: STACK (what = 0), TIME (1);");
        BoundCode x = five();
        x.analyse(0);
        DUE.is("analyse(2)", x.analyse(2), 2);
        for (int m = 0; m < 5; m++) {
            bounds(x, "when 2 was answered", m, -1, -1);
        }
        x.analyse(0);
        DUE.is("analyse(3)", x.analyse(3), 1);
        for (int m = 0; m < 5; m++) {
            bounds(x, "when 1 was answered", m, -1, -1);
        }
        DUE.is("analyse(4)", x.analyse(4), 3);
        bounds(x, "when 3 was answered", 1, 3, 1);
        DUE.is("STACK when 3 was answered", x.bound(4, 0), 1 + 2 + 3);
        DUE.is("analyse(1)", x.analyse(1), 0);
        bounds(x, "when 0 was answered", 1, 3, 1);
    }

    private static void notReached() {
        DUE.sentence("else NONE, too.");
        BoundCode x = five();
        x.analyse(0);
        for (int m = 2; m < 5; m++) {
            bounds(x, "of one that is not REACHED", m, -1, -1);
        }
        x.analyse(4);
        bounds(x, "of one that was REACHED before", 0, -1, -1);
        x.analyse(1);
        bounds(x, "of one that was REACHED before", 4, -1, -1);
    }

    private static void aboveTheLongest() {
        DUE.sentence("NONE when it is above 2^63 - 1;");
        BoundCode x = five();
        Code.plain(x, "CALL 4, RETURN");
        DUE.is("analyse(5)", x.analyse(5), 3);
        bounds(x, "of one too great", 4, 6, -1);
        bounds(x, "of what CALLS it", 5, 8, -1);
        bounds(x, "of what it CALLS", 1, 3, 1);
    }

    private static void noSuchMethod() {
        DUE.sentence("IndexOutOfBoundsException: there is no such METHOD, or another what.");
        BoundCode x = five();
        for (int when = 0; when < 2; when++) {
            for (int m : new int[] {-1, 5, 31, 32, Integer.MIN_VALUE, Integer.MAX_VALUE}) {
                for (int what : new int[] {0, 1, 2}) {
                    DUE.noMethod("bound(" + m + ", " + what + ")", () -> x.bound(m, what));
                }
            }
            x.analyse(4);
        }
        DUE.is("bound(4, 0)", x.bound(4, 0), 6);
        DUE.is("bound(0, 0)", x.bound(0, 0), BoundCode.NONE);
    }

    private static void noSuchWhat() {
        DUE.sentence("IndexOutOfBoundsException: there is no such METHOD, or another what.");
        BoundCode x = five();
        x.analyse(0);
        for (int m : new int[] {0, 4}) {
            for (int what : new int[] {-1, 2, Integer.MIN_VALUE, Integer.MAX_VALUE}) {
                DUE.noMethod("bound(" + m + ", " + what + ")", () -> x.bound(m, what));
            }
        }
        bounds(x, "after those", 0, 5, 3);
    }
}
