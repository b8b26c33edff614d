/** Promise 11: TIME. */
public final class P11TimeTest {
    private static final Due DUE = new Due();

    public static void main(String[] args) {
        paths();
        choices();
        callsCost();
        loops();
        returnsWithin();
        noPathToEnd();
        longest();
        returnAtTheEdge();
        callAtTheEdge();
        beyond();
        chain();
        oneBehindAnother();
        DUE.end();
    }

    /** METHOD 0 has 2 ARGUMENTS, 1 RESULT and TIME 4. */
    private static void time(String lines, long due) {
        BoundCode x = new BoundCode();
        Code.method(x, 2, 1, 4, "LOAD 0, LOAD 1, ADD, RETURN");
        int m = Code.plain(x, lines);
        DUE.is(lines + ": analyse", x.analyse(m), due < 0 ? 3 : 0);
        DUE.is(lines + ": TIME", x.bound(m, 1), due);
    }

    private static void paths() {
        DUE.sentence("TIME: the greatest, of all PATHS from its first INSTRUCTION to a RETURN, of "
                + "the sum of COSTS");
        time("RETURN", 1);
        time("JUMP 3, PUSH 1, POP, RETURN", 2);
        time("RETURN, PUSH 1, POP, RETURN", 1);
        time(Code.times(59, "PUSH 1, POP") + ", JUMP 119, RETURN", 120);
        BoundCode x = new BoundCode();
        x.cost(17, 0);
        Code.plain(x, "RETURN");
        Code.plain(x, "PUSH 1, POP, RETURN");
        DUE.is("analyse(0)", x.analyse(0), 0);
        DUE.is("TIME 0", x.bound(0, 1), 0);
        x.cost(0, 1000000);
        x.cost(1, 1000000);
        x.analyse(1);
        DUE.is("TIME of the greatest COSTS", x.bound(1, 1), 2000000);
    }

    private static void choices() {
        DUE.sentence("a PATH goes on or jumps at each IFNOT;");
        time("PUSH 1, IFNOT 2, RETURN", 3);
        time("PUSH 1, IFNOT 4, JUMP 3, JUMP 4, RETURN", 5);
        time("PUSH 1, IFNOT 5, PUSH 1, POP, RETURN, RETURN", 5);
        time("PUSH 1, IFNOT 3, RETURN, PUSH 1, POP, RETURN", 5);
        time("PUSH 1, IFNOT 4, PUSH 1, POP, PUSH 1, IFNOT 8, PUSH 1, POP, RETURN", 9);
        time("PUSH 1, IFNOT 6, PUSH 1, POP, PUSH 1, IFNOT 8, PUSH 1, POP, RETURN", 9);
        time("PUSH 1, IFNOT 3, JUMP 5, PUSH 1, POP, RETURN", 5);
        time("PUSH 1, IFNOT 6, PUSH 1, POP, JUMP 5, JUMP 7, RETURN, RETURN", 7);
    }

    private static void callsCost() {
        DUE.sentence("(of a CALL and the TIME of what is called)");
        time("PUSH 1, PUSH 1, CALL 0, POP, RETURN", 9);
        time("LOOP 7, PUSH 1, PUSH 1, CALL 0, POP, END, RETURN", 1 + 7 * 9 + 1);
        BoundCode x = new BoundCode();
        x.cost(16, 100);
        Code.plain(x, "CALL 1, CALL 1, RETURN");
        Code.plain(x, "CALL 2, RETURN");
        Code.plain(x, "RETURN");
        x.analyse(0);
        DUE.is("TIME of CALLS", x.bound(0, 1), 2 * (100 + 100 + 1 + 1) + 1);
    }

    private static void loops() {
        DUE.sentence("at a LOOP with n above 0 what is in it is gone through n times, each time as "
                + "it may, with its END each time,");
        time("LOOP 0, END, RETURN", 2);
        time("LOOP 1, END, RETURN", 3);
        time("LOOP 2, END, RETURN", 4);
        time("LOOP 1000000000, END, RETURN", 1000000002);
        time("LOOP 0, LOOP 1000000000, END, END, RETURN", 2);
        time("LOOP 3, LOOP 0, PUSH 1, END, END, RETURN", 1 + 3 * 2 + 1);
        time("LOOP 3, LOOP 4, END, END, RETURN", 1 + 3 * (1 + 4 + 1) + 1);
        time("LOOP 3, PUSH 1, IFNOT 5, PUSH 1, POP, END, RETURN", 1 + 3 * 5 + 1);
        time("LOOP 3, PUSH 1, IFNOT 4, JUMP 6, PUSH 1, POP, END, RETURN", 1 + 3 * 5 + 1);
        time("LOOP 2, END, LOOP 3, END, RETURN", 1 + 2 + 1 + 3 + 1);
        time(Code.times(8, "LOOP 2") + "," + Code.times(8, "END") + ", RETURN", 255 + 510 + 1);
        DUE.sentence("a LOOP costs once.");
        BoundCode x = new BoundCode();
        x.cost(14, 1000);
        x.cost(15, 10);
        Code.plain(x, "LOOP 3, LOOP 4, END, END, RETURN");
        x.analyse(0);
        DUE.is("TIME of LOOPS", x.bound(0, 1), 1000 + 3 * (1000 + 4 * 10 + 10) + 1);
        x.change(0, 0, 14, 0);
        x.analyse(0);
        DUE.is("TIME of LOOP 0", x.bound(0, 1), 1000 + 1);
    }

    private static void returnsWithin() {
        DUE.sentence("but a PATH may RETURN in any of these times;");
        time("LOOP 4, PUSH 1, IFNOT 4, RETURN, END, RETURN", 14);
        for (int n = 1; n <= 4; n++) {
            time("LOOP " + n + ", PUSH 1, IFNOT 8, PUSH 1, POP, PUSH 1, POP, RETURN, END, RETURN",
                    1 + (n - 1) * 3 + 7);
        }
        time("LOOP 0, PUSH 1, IFNOT 8, PUSH 1, POP, PUSH 1, POP, RETURN, END, RETURN", 2);
        time("LOOP 2, PUSH 0, IFNOT 5, JUMP 5, RETURN, END, RETURN", 1 + 2 * 4 + 1);
        time("LOOP 2, LOOP 3, PUSH 1, IFNOT 5, RETURN, END, END, RETURN",
                1 + 2 * (1 + 3 * 3 + 1) + 1);
        String early = "LOOP 2, LOOP 3, PUSH 1, IFNOT 7, PUSH 1, POP, RETURN, END, END, RETURN";
        BoundCode x = new BoundCode();
        Code.plain(x, early);
        x.cost(17, 100);
        x.analyse(0);
        DUE.is("TIME of the last RETURN within two LOOPS", x.bound(0, 1),
                1 + (1 + 3 * 3 + 1) + 1 + 2 * 3 + 4 + 100);
    }

    private static void noPathToEnd() {
        DUE.sentence("(If no PATH comes to END, none goes through it.)");
        time("LOOP 1, RETURN, END, RETURN", 2);
        time("LOOP 4, RETURN, END, PUSH 1, POP, RETURN", 2);
        time("LOOP 1000000000, RETURN, END, RETURN", 2);
        time("LOOP 2, LOOP 3, RETURN, END, END, RETURN", 3);
        time("LOOP 2, PUSH 1, IFNOT 6, LOOP 3, RETURN, END, END, RETURN", 1 + 2 * 3 + 1);
        time("LOOP 2, PUSH 1, IFNOT 4, RETURN, PUSH 1, POP, RETURN, END, RETURN", 6);
        time("PUSH 1, IFNOT 5, LOOP 2, RETURN, END, PUSH 1, POP, RETURN", 5);
    }

    /**
     * 2^63 - 1 is 7 * 7 * 73 * 127 * 337 * 92737 * 649657; the METHOD 0 that is made takes that
     * long, for PUSH alone has a COST.
     */
    private static BoundCode longestOfAll() {
        BoundCode x = new BoundCode();
        for (int operation = 0; operation <= 17; operation++) {
            x.cost(operation, 0);
        }
        Code.plain(x, "LOOP 649657, LOOP 92737, LOOP 337, LOOP 1, PUSH 1, POP, END, END, END, END,"
                + "RETURN");
        x.cost(0, 127 * 73 * 49);
        return x;
    }

    private static void bounds(BoundCode x, String when, int m, int answer, long time) {
        DUE.is("analyse(" + m + ") " + when, x.analyse(m), answer);
        DUE.is("bound(" + m + ", 1) " + when, x.bound(m, 1), time);
    }

    private static void longest() {
        DUE.sentence("3 if one of these is above 2^63 - 1");
        BoundCode x = longestOfAll();
        bounds(x, "of 2^63 - 1", 0, 0, Long.MAX_VALUE);
        x.cost(17, 1);
        bounds(x, "of 2^63, by RETURN", 0, 3, BoundCode.NONE);
        DUE.is("STACK beside 2^63", x.bound(0, 0), 1);
        x.cost(17, 0);
        x.cost(14, 1);
        x.change(0, 0, 14, 649655);
        bounds(x, "of less", 0, 0, Long.MAX_VALUE - 2 * 92737L * 337 * 127 * 73 * 49
                + 1 + 649655L * (1 + 92737L * (1 + 337)));
        x.change(0, 0, 14, 649657);
        bounds(x, "of 2^63 and more, by LOOP", 0, 3, BoundCode.NONE);
        x.cost(14, 0);
        x.change(0, 3, 14, 2);
        bounds(x, "of 2^64 - 2", 0, 3, BoundCode.NONE);
        x.change(0, 3, 14, 0);
        bounds(x, "of nothing", 0, 0, 0);
    }

    private static void returnAtTheEdge() {
        DUE.sentence("but a PATH may RETURN in any of these times;");
        BoundCode x = longestOfAll();
        Code.method(x, 0, 0, 1, "LOOP 1, LOAD 0, IFNOT 5, CALL 0, RETURN, LOAD 0, DUP, POP, POP,"
                + "END, RETURN");
        x.cost(2, 1);
        bounds(x, "of 2^63 - 1 in the only time", 1, 0, Long.MAX_VALUE);
        x.change(1, 0, 14, 2);
        bounds(x, "of 2^63 in the second time", 1, 3, BoundCode.NONE);
        x.cost(2, 0);
        bounds(x, "of 2^63 - 1 in the second time", 1, 0, Long.MAX_VALUE);
        x.change(1, 0, 14, 1000000000);
        bounds(x, "of 2^63 - 1 in the last time", 1, 0, Long.MAX_VALUE);
        x.change(1, 0, 14, 0);
        bounds(x, "of no time", 1, 0, 0);
    }

    private static void callAtTheEdge() {
        DUE.sentence("3 if one of these is above 2^63 - 1 (for any that is REACHED), else 0.");
        BoundCode x = longestOfAll();
        Code.plain(x, "CALL 0, RETURN");
        Code.plain(x, "CALL 0, PUSH 1, POP, RETURN");
        Code.plain(x, "LOOP 2, CALL 0, END, RETURN");
        Code.plain(x, "LOOP 1, CALL 0, END, RETURN");
        Code.plain(x, "LOOP 1, CALL 0, RETURN, END, CALL 0, RETURN");
        Code.plain(x, "LOOP 0, CALL 0, END, RETURN");
        bounds(x, "of a CALL", 1, 0, Long.MAX_VALUE);
        bounds(x, "of a CALL and more", 2, 3, BoundCode.NONE);
        DUE.is("TIME of what is called", x.bound(0, 1), Long.MAX_VALUE);
        bounds(x, "of two times", 3, 3, BoundCode.NONE);
        bounds(x, "of one time", 4, 0, Long.MAX_VALUE);
        bounds(x, "of one time that RETURNS", 5, 0, Long.MAX_VALUE);
        bounds(x, "of no time", 6, 0, 0);
        x.cost(16, 1);
        bounds(x, "of a CALL that costs", 1, 3, BoundCode.NONE);
        DUE.is("TIME of what is called", x.bound(0, 1), Long.MAX_VALUE);
        bounds(x, "of no CALL that costs", 6, 0, 0);
    }

    /** 2^64 and 2^64 + 2^16 would be 0 and 2^16, if they wrapped; only PUSH costs here. */
    private static void beyond() {
        DUE.sentence("Else of each that is REACHED the bounds, as numbers without end:");
        BoundCode x = longestOfAll();
        String much = "LOOP 65536, LOOP 65536, LOOP 65536, LOOP 65536, PUSH 1, POP, END, END, END,"
                + "END,";
        int once = Code.plain(x, much + "RETURN");
        int more = Code.plain(x, much + "LOOP 65536, PUSH 1, POP, END, RETURN");
        int called = Code.plain(x, "LOOP 65536, CALL " + once + ", END, PUSH 1, POP, RETURN");
        for (int m : new int[] {once, more, called}) {
            x.cost(0, 1);
            bounds(x, "of 2^64 and more", m, 3, BoundCode.NONE);
            x.cost(0, 1000000);
            bounds(x, "of a million times as much", m, 3, BoundCode.NONE);
            x.cost(0, 0);
            bounds(x, "of nothing", m, 0, 0);
        }
        time("LOOP 1000000000, LOOP 1000000000, LOOP 1000000000, END, END, END, RETURN", -1);
        time(Code.times(8, "LOOP 1000000000") + "," + Code.times(8, "END") + ",RETURN", -1);
        time("PUSH 1, IFNOT 3, RETURN," + Code.times(3, "LOOP 1000000000") + ","
                + Code.times(3, "END") + ",RETURN", -1);
        time(Code.times(3, "LOOP 1000000000") + "," + Code.times(3, "END")
                + ", PUSH 1, IFNOT 9, RETURN, RETURN", -1);
    }

    /** Each METHOD does the next one ten times. */
    private static void chain() {
        DUE.sentence("3 if one of these is above 2^63 - 1 (for any that is REACHED), else 0.");
        BoundCode x = new BoundCode();
        for (int m = 0; m < 31; m++) {
            Code.plain(x, "LOOP 10, CALL " + (m + 1) + ", END, RETURN");
        }
        Code.plain(x, "RETURN");
        DUE.is("analyse(0) of a chain", x.analyse(0), 3);
        long time = 1;
        for (int m = 31; m >= 13; m--) {
            DUE.is("TIME of " + m, x.bound(m, 1), time);
            DUE.is("STACK of " + m, x.bound(m, 0), 2 * (31 - m));
            time = 2 + 10 * (2 + time);
        }
        for (int m = 12; m >= 0; m--) {
            DUE.is("TIME of " + m, x.bound(m, 1), BoundCode.NONE);
            DUE.is("STACK of " + m, x.bound(m, 0), 2 * (31 - m));
        }
        DUE.is("analyse(12)", x.analyse(12), 3);
        DUE.is("analyse(13)", x.analyse(13), 0);
        DUE.is("TIME of 12, not REACHED", x.bound(12, 1), BoundCode.NONE);
        DUE.is("STACK of 12, not REACHED", x.bound(12, 0), BoundCode.NONE);
    }

    /** What one METHOD needed is no part of what the next one needs. */
    private static void oneBehindAnother() {
        DUE.sentence("Else of each that is REACHED the bounds");
        BoundCode x = new BoundCode();
        x.cost(17, 1000);
        Code.plain(x, "PUSH 1, IFNOT 3, RETURN, RETURN");
        Code.plain(x, "LOOP 2, PUSH 1, POP, END, RETURN");
        Code.plain(x, "PUSH 1, POP, LOOP 2, END, RETURN");
        for (int m = 0; m < 3; m++) {
            x.analyse(m);
        }
        DUE.is("TIME behind others", x.bound(2, 1), 2 + 1 + 2 + 1000);
        x.analyse(1);
        DUE.is("TIME behind others", x.bound(1, 1), 1 + 2 * 3 + 1000);
    }
}
