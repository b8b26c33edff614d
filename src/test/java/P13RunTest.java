/** Promise 13: how a RUN begins and ends. */
public final class P13RunTest {
    private static final Due DUE = new Due();

    public static void main(String[] args) {
        noSuchMethod();
        wordsAreNotAsMany();
        mostIsNotRight();
        firstOfBoth();
        begins();
        endsWithOne();
        endsWithTwo();
        endsWithThree();
        endsWithFour();
        whatWouldBeDone();
        order();
        costsAsTheyAre();
        leavesNothing();
        DUE.end();
    }

    private static void noSuchMethod() {
        DUE.sentence("Answers how it ends, 1 .. 4. IndexOutOfBoundsException: there is no such "
                + "METHOD.");
        BoundCode x = new BoundCode();
        DUE.noMethod("run(0, 5) of none", () -> x.run(0, 5));
        for (int count = 1; count <= 32; count++) {
            int behind = count;
            Code.plain(x, "RETURN");
            DUE.is("run of the last of " + count, x.run(count - 1, 5), 1);
            DUE.noMethod("run(" + behind + ", 5)", () -> x.run(behind, 5));
        }
        for (int m : new int[] {-1, 33, Integer.MIN_VALUE, Integer.MAX_VALUE}) {
            DUE.noMethod("run(" + m + ", 5)", () -> x.run(m, 5));
        }
    }

    /** With each number of ARGUMENTS and each number of words. */
    private static void wordsAreNotAsMany() {
        DUE.sentence("IllegalArgumentException: there are not as many words as it has ARGUMENTS "
                + "(they stay)");
        for (int arguments = 0; arguments <= 8; arguments++) {
            for (int words = 0; words <= 8; words++) {
                BoundCode x = new BoundCode();
                Code.method(x, arguments, 0, 8, "RETURN");
                for (int k = 0; k < words; k++) {
                    x.argument(k);
                }
                String call = "run with " + words + " words for " + arguments;
                if (words == arguments) {
                    DUE.is(call, x.run(0, 5), 1);
                    DUE.is("they are used up", x.argument(0), 1);
                } else {
                    DUE.badArgument(call, () -> x.run(0, 5));
                    if (words < 8) {
                        DUE.is("they stay", x.argument(0), words + 1);
                    }
                }
            }
        }
    }

    private static void mostIsNotRight() {
        DUE.sentence("or most is not 0 .. 100000.");
        BoundCode x = new BoundCode();
        Code.method(x, 1, 1, 1, "LOAD 0, RETURN");
        x.argument(4);
        for (int most : new int[] {-1, 100001, Integer.MIN_VALUE, Integer.MAX_VALUE}) {
            DUE.badArgument("run(0, " + most + ")", () -> x.run(0, most));
        }
        DUE.is("run(0, 100000): the word stayed", x.run(0, 100000), 1);
        DUE.is("its result", x.ran(0), 4);
        x.argument(4);
        DUE.is("run(0, 0)", x.run(0, 0), 2);
        Code.plain(x, "LOOP 1000000000, END, RETURN");
        Code.plain(x, "LOOP 99998, END, RETURN");
        Code.plain(x, "LOOP 99999, END, RETURN");
        DUE.is("a long LOOP", x.run(1, 100000), 2);
        DUE.is("as many as it may", x.ran(3), 100000);
        DUE.is("100000 are just enough", x.run(2, 100000), 1);
        DUE.is("99999 are not", x.run(2, 99999), 2);
        DUE.is("one more than 100000", x.run(3, 100000), 2);
    }

    private static void firstOfBoth() {
        DUE.sentence("Methods throw what their comments name, the one named first when several "
                + "would do");
        BoundCode x = new BoundCode();
        x.method(0, 0, 0);
        DUE.noMethod("run(-1, -1)", () -> x.run(-1, -1));
        DUE.noMethod("run(1, 100001)", () -> x.run(1, 100001));
        x.argument(1);
        DUE.noMethod("run(1, 5) with a word", () -> x.run(1, 5));
        DUE.badArgument("run(0, -1) with a word too many", () -> x.run(0, -1));
    }

    private static void begins() {
        DUE.sentence("it begins with its ARGUMENTS in LOCALS, all others 0.");
        BoundCode x = new BoundCode();
        Code.method(x, 2, 1, 4, "LOAD 0, PUSH 10, MUL, LOAD 1, ADD, LOAD 2, ADD, LOAD 3, ADD,"
                + "PUSH 1000, STORE 2, PUSH 1000, STORE 3, PUSH 1000, STORE 0, RETURN");
        Code.method(x, 0, 1, 0, "PUSH 1, PUSH 2, CALL 0, PUSH 3, PUSH 4, CALL 0, ADD, RETURN");
        for (int k = 0; k < 3; k++) {
            DUE.is("run", Code.run(x, 0, 100, 5, 6), 1);
            DUE.is("its result", x.ran(0), 56);
            DUE.is("run of two CALLS", x.run(1, 100), 1);
            DUE.is("its result", x.ran(0), 12 + 34);
        }
        Code.method(x, 0, 1, 16, "LOAD 0, LOAD 15, ADD, RETURN");
        DUE.is("run without ARGUMENTS", x.run(2, 10), 1);
        DUE.is("its result", x.ran(0), 0);
    }

    private static void endsWithOne() {
        DUE.sentence("It ends with 1 at the RETURN of the first one;");
        BoundCode x = new BoundCode();
        Code.plain(x, "CALL 1, CALL 1, RETURN, 17");
        Code.plain(x, "RETURN");
        DUE.is("run", x.run(0, 5), 1);
        DUE.is("not at the RETURN of another one", x.ran(3), 5);
        DUE.is("CALLS", x.ran(4), 2);
        Code.plain(x, "LOOP 3, RETURN, END");
        DUE.is("run that RETURNS in a LOOP", x.run(2, 5), 1);
        DUE.is("what it did", x.ran(3), 2);
    }

    private static void endsWithTwo() {
        DUE.sentence("2 when an INSTRUCTION would be done and as many were done as it may;");
        BoundCode x = new BoundCode();
        Code.plain(x, "PUSH 1, POP, CALL 1, RETURN");
        Code.plain(x, "RETURN");
        for (int most = 0; most < 5; most++) {
            DUE.is("most = " + most, x.run(0, most), 2);
            DUE.is("done", x.ran(3), most);
            DUE.is("CALLS", x.ran(4), most > 2 ? 1 : 0);
        }
        DUE.is("most = 5: just enough", x.run(0, 5), 1);
        DUE.is("done", x.ran(3), 5);
        DUE.is("most = 6", x.run(0, 6), 1);
        DUE.is("done", x.ran(3), 5);
    }

    /** METHOD 0 takes how deep to go, and CALLS itself, or at 0 METHOD 1. */
    private static BoundCode deep() {
        BoundCode x = new BoundCode();
        Code.method(x, 1, 1, 1, "LOAD 0, IFNOT 7, LOAD 0, PUSH 1, SUB, CALL 0, RETURN, CALL 1,"
                + "RETURN");
        Code.method(x, 0, 1, 0, "PUSH 5, RETURN");
        return x;
    }

    private static void endsWithThree() {
        DUE.sentence("3 when a CALL would be the 100th within one another;");
        BoundCode x = deep();
        DUE.is("98 CALLS within one another", Code.run(x, 0, 10000, 97), 1);
        DUE.is("their number", x.ran(4), 98);
        DUE.is("99 CALLS within one another", Code.run(x, 0, 10000, 98), 1);
        DUE.is("their result", x.ran(0), 5);
        DUE.is("their number", x.ran(4), 99);
        DUE.is("the 100th", Code.run(x, 0, 10000, 99), 3);
        DUE.is("is not done", x.ran(4), 99);
        DUE.is("has no result", x.ran(0), 0);
        DUE.is("far more", Code.run(x, 0, 10000, 1000), 3);
        DUE.is("their number", x.ran(4), 99);
        BoundCode y = new BoundCode();
        Code.plain(y, "LOOP 200, CALL 1, END, RETURN");
        Code.plain(y, "RETURN");
        DUE.is("200 CALLS one behind the other", y.run(0, 1000), 1);
        DUE.is("their number", y.ran(4), 200);
        Code.plain(y, "CALL 2, RETURN");
        DUE.is("CALLS of itself", y.run(2, 1000), 3);
        DUE.is("done", y.ran(3), 99);
        DUE.is("run behind one that was too deep", y.run(0, 1000), 1);
    }

    private static void endsWithFour() {
        DUE.sentence("4 when a METHOD with a FAULT would be called, also the first one");
        BoundCode x = new BoundCode();
        Code.plain(x, "PUSH 1, POP, CALL 1, RETURN");
        Code.method(x, 0, 0, 3, "POP");
        DUE.is("the first one with a FAULT", x.run(1, 5), 4);
        DUE.is("the first one with a FAULT is not begun", x.run(1, 0), 4);
        DUE.is("a CALL of one with a FAULT", x.run(0, 5), 4);
        x.change(1, 0, 17, 0);
        DUE.is("without the FAULT", x.run(0, 5), 1);
        x.add(1, 99, 0);
        DUE.is("a FAULT in what is not MET", x.run(0, 5), 4);
        x.method(0, 0, 0);
        DUE.is("without INSTRUCTIONS", x.run(2, 5), 4);
        Code.plain(x, "PUSH 0, IFNOT 3, CALL 1, RETURN");
        DUE.is("a CALL that is not come to", x.run(3, 9), 1);
        Code.plain(x, "RETURN, CALL 9");
        DUE.is("a CALL of none", x.run(4, 9), 4);
        Code.plain(x, "CALL 3, CALL 0, RETURN");
        DUE.is("a FAULT two CALLS away", x.run(5, 99), 4);
        DUE.is("CALLS before it", x.ran(4), 2);
    }

    private static void whatWouldBeDone() {
        DUE.sentence("(what would be done is not, with 2, 3, 4;");
        BoundCode x = new BoundCode();
        x.cost(16, 1000);
        Code.plain(x, "PUSH 1, POP, CALL 1, RETURN");
        Code.method(x, 0, 0, 16, "POP");
        DUE.is("a CALL of a FAULT", x.run(0, 5), 4);
        ran(x, 0, 2, 1, 2, 0);
        DUE.is("cut short before it", x.run(0, 2), 2);
        ran(x, 0, 2, 1, 2, 0);
        DUE.is("the first one", x.run(1, 5), 4);
        ran(x, 0, 0, 0, 0, 0);
        BoundCode y = new BoundCode();
        y.cost(16, 1000);
        Code.method(y, 0, 0, 1, "CALL 0, RETURN");
        DUE.is("too deep", y.run(0, 1000), 3);
        ran(y, 0, 99000, 100 + 2 * 99, 99, 99);
    }

    private static void ran(BoundCode x, long... due) {
        for (int what = 0; what < due.length; what++) {
            DUE.is("ran(" + what + ")", x.ran(what), due[what]);
        }
    }

    private static void order() {
        DUE.sentence("2 before 4 before 3).");
        BoundCode x = new BoundCode();
        Code.plain(x, "PUSH 1, POP, CALL 1, RETURN");
        Code.plain(x, "POP");
        DUE.is("2 before 4", x.run(0, 2), 2);
        DUE.is("once more is 4", x.run(0, 3), 4);
        BoundCode y = deep();
        Code.run(y, 0, 10000, 99);
        int done = (int) y.ran(3);
        DUE.is("2 before 3", Code.run(y, 0, done, 99), 2);
        DUE.is("once more is 3", Code.run(y, 0, done + 1, 99), 3);
        y.change(1, 0, 1, 0);
        DUE.is("4 before 3", Code.run(y, 0, 10000, 99), 4);
        DUE.is("2 before both", Code.run(y, 0, done, 99), 2);
        DUE.is("once more is 4", Code.run(y, 0, done + 1, 99), 4);
        DUE.is("4 in time", Code.run(y, 0, 10000, 98), 4);
    }

    private static void costsAsTheyAre() {
        DUE.sentence("of at most so many INSTRUCTIONS (with their COSTS as they are now).");
        BoundCode x = new BoundCode();
        Code.plain(x, "PUSH 1, POP, RETURN");
        x.analyse(0);
        x.run(0, 5);
        DUE.is("CYCLES", x.ran(1), 3);
        x.cost(0, 0);
        x.run(0, 5);
        DUE.is("CYCLES of PUSH for nothing", x.ran(1), 2);
        x.cost(0, 1000000);
        DUE.is("CYCLES are of the COSTS then", x.ran(1), 2);
        x.run(0, 5);
        DUE.is("CYCLES of PUSH for all", x.ran(1), 1000002);
    }

    /** RUNS that stop in their LOOPS and CALLS are no part of the next one. */
    private static void leavesNothing() {
        DUE.sentence("A RUN of a METHOD with these words, which are used up,");
        BoundCode x = new BoundCode();
        Code.plain(x, Code.times(8, "LOOP 2") + "," + Code.times(8, "END") + ", RETURN");
        Code.method(x, 0, 0, 16, "CALL 1, RETURN");
        for (int k = 0; k < 120; k++) {
            x.run(0, 8);
            x.run(1, 50);
        }
        DUE.is("run behind 240 that stopped", x.run(0, 2000), 1);
        DUE.is("what it did", x.ran(3), 255 + 510 + 1);
        DUE.is("its WORDS", x.ran(2), 0);
    }
}
