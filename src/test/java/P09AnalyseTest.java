/** Promise 9: analyse. */
public final class P09AnalyseTest {
    private static final Due DUE = new Due();

    public static void main(String[] args) {
        BoundCode x = new BoundCode();
        Code.plain(x, "CALL 1, RETURN");
        Code.plain(x, "CALL 2, RETURN");
        Code.plain(x, "RETURN");
        Code.plain(x, "POP");
        Code.plain(x, "CALL 3, CALL 4, RETURN");
        Code.plain(x, "CALL 6, RETURN");
        Code.plain(x, "CALL 5, RETURN");
        Code.plain(x, "RETURN, CALL 3");
        Code.plain(x, "LOOP 0, CALL 8, END, RETURN");
        DUE.noMethod("analyse(9)", () -> x.analyse(9));
        DUE.noMethod("analyse(-1)", () -> x.analyse(-1));
        DUE.is("of a chain", x.analyse(0), 0);
        DUE.is("of one with a FAULT", x.analyse(3), 1);
        DUE.is("of a FAULT and a cycle", x.analyse(4), 1);
        DUE.is("of a cycle of two", x.analyse(5), 2);
        DUE.is("of a CALL behind RETURN", x.analyse(7), 0);
        DUE.is("of a CALL within LOOP 0", x.analyse(8), 0);
        x.change(2, 0, 16, 0);
        x.add(2, 17, 0);
        DUE.is("of a cycle of three", x.analyse(1), 2);
        x.change(2, 0, 16, 2);
        DUE.is("of a cycle that is only reached", x.analyse(0), 2);
        x.change(2, 0, 16, 5);
        DUE.is("of a cycle far away", x.analyse(0), 2);
        x.change(6, 0, 1, 0);
        DUE.is("of a FAULT far away", x.analyse(0), 1);
        x.change(6, 0, 14, 0);
        x.change(6, 1, 15, 0);
        x.add(6, 17, 0);
        DUE.is("of none any more", x.analyse(0), 0);
        firstMethod();
        tooGreat();
        DUE.end();
    }

    /** METHOD 0 is one as all others, where it is come to by CALLS. */
    private static void firstMethod() {
        BoundCode x = new BoundCode();
        Code.plain(x, "CALL 2, RETURN");
        Code.plain(x, "CALL 0, RETURN");
        Code.plain(x, "CALL 1, RETURN");
        DUE.is("of a cycle by way of 0", x.analyse(1), 2);
        for (int m = 0; m < 3; m++) {
            DUE.is(m + " is REACHED", x.told(m, 0), 1);
            DUE.is(m + " can come to itself", x.told(m, 2), 1);
        }
        x.change(0, 0, 16, 0);
        DUE.is("of 0 that CALLS itself", x.analyse(1), 2);
        DUE.is("only 0 can come to itself", x.told(1, 2), 0);
        x.change(0, 0, 1, 0);
        DUE.is("of a FAULT in 0", x.analyse(1), 1);
        DUE.is("it is in 0", x.told(0, 1), 1);
    }

    private static void tooGreat() {
        BoundCode x = new BoundCode();
        Code.plain(x, "CALL 1, RETURN");
        Code.plain(x, "LOOP 1000000000, LOOP 1000000000, LOOP 9, END, END, END, RETURN");
        DUE.is("above 2^63 - 1", x.analyse(0), 3);
        DUE.is("above 2^63 - 1", x.analyse(1), 3);
        x.cost(15, 0);
        DUE.is("END for nothing", x.analyse(0), 0);
        x.cost(14, 0);
        DUE.is("all for nothing", x.analyse(0), 0);
        DUE.is("all for nothing", x.bound(0, 1), 3);
    }
}
