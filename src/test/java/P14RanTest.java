/** Promise 14: ran. */
public final class P14RanTest {
    private static final Due DUE = new Due();

    public static void main(String[] args) {
        beforeOne();
        ofTheLast();
        result();
        cycles();
        mostCycles();
        words();
        callsAndWords();
        mostWords();
        mostLoops();
        doneAndCalls();
        noSuchWhat();
        DUE.end();
    }

    private static void ran(BoundCode x, String when, long... due) {
        for (int what = 0; what < due.length; what++) {
            DUE.is("ran(" + what + ") " + when, x.ran(what), due[what]);
        }
    }

    /** METHOD 0 has 2 ARGUMENTS and CALLS 1; 2 has no RESULT; 3 has 7 LOCALS. */
    private static BoundCode four() {
        BoundCode x = new BoundCode();
        Code.method(x, 2, 1, 3, "LOAD 0, LOAD 1, CALL 1, RETURN");
        Code.method(x, 2, 1, 2, "LOAD 0, DUP, LOAD 1, MUL, ADD, RETURN");
        Code.plain(x, "PUSH 1, PUSH 2, POP, POP, RETURN");
        Code.method(x, 0, 0, 7, "PUSH 1, POP, RETURN");
        return x;
    }

    private static void beforeOne() {
        DUE.sentence("Of the last run(), 0 before one:");
        BoundCode x = four();
        ran(x, "before a run", 0, 0, 0, 0, 0);
        x.check(0);
        x.analyse(0);
        x.argument(5);
        DUE.noMethod("run(9, 1)", () -> x.run(9, 1));
        DUE.badArgument("run(0, 1)", () -> x.run(0, 1));
        DUE.badArgument("run(0, -1)", () -> x.run(0, -1));
        ran(x, "before a run that does not throw", 0, 0, 0, 0, 0);
    }

    private static void ofTheLast() {
        DUE.sentence("(what = 0), its CYCLES (1), its WORDS (2), how many INSTRUCTIONS it did (3), "
                + "CALLS (4).");
        BoundCode x = four();
        Code.run(x, 0, 100, 6, 7);
        ran(x, "of a CALL", 48, 10, 3 + 2 + 2 + 3, 10, 1);
        ran(x, "once more", 48, 10, 10, 10, 1);
        DUE.noMethod("run(9, 1)", () -> x.run(9, 1));
        DUE.badArgument("run(0, 1)", () -> x.run(0, 1));
        DUE.badArgument("run(2, -1)", () -> x.run(2, -1));
        x.cost(0, 50);
        x.change(1, 0, 1, 0);
        x.analyse(0);
        x.check(0);
        ran(x, "after runs that threw, and all else", 48, 10, 10, 10, 1);
        x.run(3, 1);
        ran(x, "of another one", 0, 50, 8, 1, 0);
        x.run(3, 0);
        ran(x, "of nothing done", 0, 0, 7, 0, 0);
        x.change(3, 0, 1, 0);
        x.run(3, 10);
        ran(x, "of a FAULT", 0, 0, 0, 0, 0);
    }

    private static void result() {
        DUE.sentence("its result, if it ended with 1 and there is one (what = 0)");
        BoundCode x = four();
        Code.run(x, 1, 100, 6, 7);
        DUE.is("result", x.ran(0), 48);
        x.run(2, 100);
        DUE.is("result without RESULTS", x.ran(0), 0);
        for (long word : new long[] {0, -1, Long.MIN_VALUE, Long.MAX_VALUE}) {
            Code.run(x, 1, 100, word, 0);
            DUE.is("result " + word, x.ran(0), word);
        }
        DUE.is("run cut short before RETURN", Code.run(x, 1, 5, 6, 7), 2);
        DUE.is("its result", x.ran(0), 0);
        Code.run(x, 1, 100, 6, 7);
        Code.method(x, 0, 1, 0, "PUSH 5, CALL 5, RETURN");
        x.method(0, 0, 0);
        DUE.is("run of a FAULT", x.run(4, 100), 4);
        DUE.is("its result", x.ran(0), 0);
        Code.run(x, 1, 100, 6, 7);
        x.change(4, 1, 16, 4);
        x.change(4, 0, 0, 5);
        DUE.is("a sum of CALLS that has a FAULT", x.check(4), 8);
        x.change(4, 0, 12, 1);
        DUE.is("run too deep", x.run(4, 1000), 3);
        DUE.is("its result", x.ran(0), 0);
    }

    private static void cycles() {
        DUE.sentence("Its CYCLES: the COSTS of all that was done (LOOP once; END each time).");
        BoundCode x = new BoundCode();
        x.cost(14, 1000);
        x.cost(15, 10);
        Code.plain(x, "LOOP 3, PUSH 1, POP, END, RETURN");
        Code.plain(x, "LOOP 0, PUSH 1, POP, END, RETURN");
        Code.plain(x, "LOOP 1, PUSH 1, POP, END, RETURN");
        Code.plain(x, "LOOP 2, LOOP 2, END, END, RETURN");
        x.run(0, 100);
        ran(x, "of a LOOP", 0, 1000 + 3 * 12 + 1, 1, 11, 0);
        x.run(1, 100);
        ran(x, "of a LOOP of 0", 0, 1001, 0, 2, 0);
        x.run(2, 100);
        ran(x, "of a LOOP of 1", 0, 1000 + 12 + 1, 1, 5, 0);
        x.run(3, 100);
        ran(x, "of a LOOP in one", 0, 3000 + 60 + 1, 0, 3 + 6 + 1, 0);
    }

    private static void mostCycles() {
        DUE.sentence("Its CYCLES: the COSTS of all that was done");
        BoundCode x = new BoundCode();
        x.cost(15, 1000000);
        x.cost(14, 0);
        Code.plain(x, "LOOP 1000000000, END, RETURN");
        DUE.is("run", x.run(0, 100000), 2);
        ran(x, "of the most CYCLES", 0, 99999L * 1000000, 0, 100000, 0);
        x.cost(14, 1000000);
        x.run(0, 100000);
        ran(x, "of still more", 0, 100000L * 1000000, 0, 100000, 0);
        x.cost(14, 0);
        x.cost(15, 0);
        x.run(0, 100000);
        ran(x, "for nothing", 0, 0, 0, 100000, 0);
    }

    private static void words() {
        DUE.sentence("Its WORDS: the most, at any time, of LOCALS and HEIGHTS of all METHODS that "
                + "are being done,");
        BoundCode x = new BoundCode();
        Code.plain(x, "RETURN");
        Code.method(x, 0, 0, 16, "RETURN");
        Code.method(x, 0, 0, 2, "PUSH 1, PUSH 1, PUSH 1, PUSH 1, POP, POP, POP, POP, CALL 3,"
                + "RETURN");
        Code.method(x, 0, 0, 1, "RETURN");
        Code.method(x, 8, 1, 8, "PUSH 1, RETURN");
        x.run(0, 100);
        DUE.is("without any", x.ran(2), 0);
        x.run(1, 100);
        DUE.is("LOCALS alone", x.ran(2), 16);
        x.run(1, 0);
        DUE.is("LOCALS before anything is done", x.ran(2), 16);
        x.run(2, 100);
        DUE.is("before the CALL", x.ran(2), 6);
        x.run(2, 3);
        DUE.is("so far", x.ran(2), 5);
        Code.run(x, 4, 100, 1, 2, 3, 4, 5, 6, 7, 8);
        DUE.is("ARGUMENTS are LOCALS", x.ran(2), 9);
    }

    private static void callsAndWords() {
        DUE.sentence("and 2 for each CALL that is being done (the ARGUMENTS are no more a part of "
                + "the caller's HEIGHT).");
        BoundCode x = new BoundCode();
        Code.method(x, 8, 0, 8, "RETURN");
        Code.plain(x, Code.times(9, "PUSH 1") + ", CALL 0, POP, RETURN");
        x.run(1, 100);
        DUE.is("ARGUMENTS are counted once", x.ran(2), 1 + 2 + 8);
        x.run(1, 9);
        DUE.is("before the CALL", x.ran(2), 9);
        x.run(1, 10);
        DUE.is("behind the CALL", x.ran(2), 11);
        Code.method(x, 0, 1, 0, "PUSH 1, RETURN");
        Code.method(x, 0, 0, 2, "CALL 2, CALL 2, CALL 2, CALL 2, POP, POP, POP, POP, RETURN");
        x.run(3, 100);
        DUE.is("of the last CALL", x.ran(2), 2 + 3 + 2 + 1);
        Code.plain(x, "CALL 5, CALL 5, RETURN");
        Code.plain(x, "RETURN");
        x.run(4, 100);
        DUE.is("CALLS one behind the other", x.ran(2), 2);
        Code.plain(x, "CALL 4, RETURN");
        x.run(6, 100);
        DUE.is("CALLS within one another", x.ran(2), 4);
    }

    /** As many METHODS as may be done at once, each with all that it may have. */
    private static void mostWords() {
        DUE.sentence("3 when a CALL would be the 100th within one another;");
        BoundCode x = new BoundCode();
        Code.method(x, 0, 0, 16, Code.times(100, "PUSH 7") + ", CALL 0,"
                + Code.times(12, "CALL 1") + "," + Code.times(4, "POP") + ", RETURN");
        Code.method(x, 8, 0, 8, "RETURN");
        DUE.is("run as deep as may be", x.run(0, 100000), 3);
        ran(x, "of as many words as may be", 0, 100 * 100 + 99, 100 * 116 + 2 * 99,
                100 * 100 + 99, 99);
    }

    private static void mostLoops() {
        DUE.sentence("at most 8 LOOPS within one another, else 2 at the ninth).");
        BoundCode y = new BoundCode();
        String ends = Code.times(8, "END") + ", RETURN";
        Code.method(y, 1, 0, 1, Code.times(8, "LOOP 1") + ", LOAD 0, IFNOT 15, LOAD 0, PUSH 1,"
                + "SUB, CALL 0, JUMP 16, CALL 1," + ends);
        Code.plain(y, Code.times(8, "LOOP 2") + "," + ends);
        DUE.is("run in as many LOOPS as may be", Code.run(y, 0, 100000, 98), 1);
        int did = 98 * 24 + 20 + 255 + 510 + 1;
        ran(y, "of as many LOOPS as may be", 0, did, 99 + 2 * 99, did, 99);
    }

    private static void doneAndCalls() {
        DUE.sentence("how many INSTRUCTIONS it did (3), CALLS (4).");
        BoundCode x = new BoundCode();
        Code.plain(x, "LOOP 33333, CALL 1, END, RETURN");
        Code.plain(x, "RETURN");
        DUE.is("run", x.run(0, 100000), 2);
        ran(x, "of many CALLS", 0, 100000, 2, 100000, 33333);
        DUE.is("run of none", x.run(1, 1), 1);
        ran(x, "of no CALL", 0, 1, 0, 1, 0);
        DUE.is("run of one CALL", x.run(0, 2), 2);
        ran(x, "of one CALL", 0, 2, 2, 2, 1);
    }

    private static void noSuchWhat() {
        DUE.sentence("IndexOutOfBoundsException: another what.");
        BoundCode x = four();
        for (int when = 0; when < 2; when++) {
            for (int what : new int[] {-1, 5, 6, Integer.MIN_VALUE, Integer.MAX_VALUE}) {
                DUE.noMethod("ran(" + what + ")", () -> x.ran(what));
            }
            Code.run(x, 0, 100, 6, 7);
        }
        ran(x, "after those", 48, 10, 10, 10, 1);
    }
}
