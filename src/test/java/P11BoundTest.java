/** Promise 11: bound. */
public final class P11BoundTest {
    private static final Due DUE = new Due();

    public static void main(String[] args) {
        stacks();
        paths();
        loops();
        oneBehindAnother();
        chains();
        edges();
        lastAnalyse();
        DUE.end();
    }

    private static void stack(int locals, String lines, long due) {
        BoundCode x = helped();
        int m = Code.method(x, 0, 0, locals, lines);
        DUE.is(lines + ": analyse", x.analyse(m), 0);
        DUE.is(lines + ": STACK", x.bound(m, 0), due);
    }

    private static void time(String lines, long due) {
        BoundCode x = helped();
        int m = Code.plain(x, lines);
        DUE.is(lines + ": analyse", x.analyse(m), due < 0 ? 3 : 0);
        DUE.is(lines + ": TIME", x.bound(m, 1), due);
    }

    /** METHOD 0 has 2 ARGUMENTS, 1 RESULT, STACK 6 and TIME 4. */
    private static BoundCode helped() {
        BoundCode x = new BoundCode();
        Code.method(x, 2, 1, 4, "LOAD 0, LOAD 1, ADD, RETURN");
        return x;
    }

    private static void stacks() {
        stack(0, "RETURN", 0);
        stack(16, "RETURN", 16);
        stack(3, "PUSH 1, DUP, POP, POP, RETURN", 5);
        stack(1, "PUSH 1, PUSH 1, CALL 0, POP, RETURN", 1 + 0 + 2 + 6);
        stack(1, "PUSH 1, PUSH 1, PUSH 1, CALL 0, POP, POP, RETURN", 1 + 1 + 2 + 6);
        stack(0, Code.times(30, "PUSH 1") + "," + Code.times(30, "POP") + ", RETURN", 30);
        stack(0, "RETURN, PUSH 1, POP, RETURN", 0);
        stack(0, "LOOP 0, PUSH 1, PUSH 1, END, RETURN", 0);
        stack(0, "LOOP 1, PUSH 1, POP, END, RETURN", 1);
        stack(2, "PUSH 0, IFNOT 4, PUSH 1, POP, PUSH 1, PUSH 1, POP, POP, RETURN", 4);
    }

    private static void paths() {
        time("RETURN", 1);
        time("PUSH 1, IFNOT 4, JUMP 3, JUMP 4, RETURN", 5);
        time("PUSH 1, IFNOT 5, PUSH 1, POP, RETURN, RETURN", 5);
        time("PUSH 1, IFNOT 3, RETURN, PUSH 1, POP, RETURN", 5);
        time("JUMP 3, PUSH 1, POP, RETURN", 2);
        time("PUSH 1, PUSH 1, CALL 0, POP, RETURN", 9);
    }

    private static void loops() {
        time("LOOP 5, END, RETURN", 7);
        time("LOOP 0, END, RETURN", 2);
        time("LOOP 1, END, RETURN", 3);
        time("LOOP 3, LOOP 4, END, END, RETURN", 1 + 3 * (1 + 4 + 1) + 1);
        time("LOOP 3, PUSH 1, IFNOT 5, PUSH 1, POP, END, RETURN", 1 + 3 * 5 + 1);
        time("LOOP 4, RETURN, END, RETURN", 2);
        time("LOOP 4, PUSH 1, IFNOT 8, PUSH 1, POP, PUSH 1, POP, RETURN, END, RETURN",
                1 + 3 * 3 + 7);
        time("LOOP 1, PUSH 1, IFNOT 8, PUSH 1, POP, PUSH 1, POP, RETURN, END, RETURN", 8);
        time("LOOP 4, PUSH 1, IFNOT 4, RETURN, END, RETURN", 14);
        time("LOOP 2, LOOP 3, PUSH 1, IFNOT 5, RETURN, END, END, RETURN",
                1 + 2 * (1 + 3 * 3 + 1) + 1);
        time("LOOP 2, LOOP 3, RETURN, END, END, RETURN", 3);
        time("LOOP 2, PUSH 1, IFNOT 6, LOOP 3, RETURN, END, END, RETURN", 1 + 2 * 3 + 1);
        time("LOOP 2, PUSH 0, IFNOT 5, JUMP 5, RETURN, END, RETURN", 1 + 2 * 4 + 1);
        time("LOOP 7, PUSH 1, PUSH 1, CALL 0, POP, END, RETURN", 1 + 7 * 9 + 1);
        time("LOOP 0, LOOP 1000000000, END, END, RETURN", 2);
        time(Code.times(59, "PUSH 1, POP") + ",JUMP 119, RETURN", 120);
    }

    /** What one METHOD needed is no part of what the next one needs. */
    private static void oneBehindAnother() {
        BoundCode x = new BoundCode();
        x.cost(17, 1000);
        Code.plain(x, "PUSH 1, IFNOT 3, RETURN, RETURN");
        Code.plain(x, "LOOP 2, PUSH 1, POP, END, RETURN");
        Code.plain(x, "PUSH 1, POP, LOOP 2, END, RETURN");
        for (int m = 0; m < 3; m++) {
            x.analyse(m);
        }
        DUE.is("TIME behind others", x.bound(2, 1), 2 + 1 + 2 + 1000);
        x.analyse(1);
        DUE.is("TIME behind others", x.bound(1, 1), 1 + 2 * 3 + 1000);
    }

    /** Each METHOD does the next one ten times. */
    private static void chains() {
        BoundCode x = new BoundCode();
        for (int m = 0; m < 31; m++) {
            Code.plain(x, "LOOP 10, CALL " + (m + 1) + ", END, RETURN");
        }
        Code.plain(x, "RETURN");
        DUE.is("analyse(0) of a chain", x.analyse(0), 3);
        long time = 1;
        for (int m = 31; m >= 13; m--) {
            DUE.is("TIME of " + m, x.bound(m, 1), time);
            DUE.is("STACK of " + m, x.bound(m, 0), 2 * (31 - m));
            time = 2 + 10 * (2 + time);
        }
        DUE.is("TIME of 12", x.bound(12, 1), BoundCode.NONE);
        DUE.is("TIME of 0", x.bound(0, 1), BoundCode.NONE);
        DUE.is("STACK of 0", x.bound(0, 0), 62);
        DUE.is("analyse(13)", x.analyse(13), 0);
        DUE.is("TIME of 12, not REACHED", x.bound(12, 1), BoundCode.NONE);
        DUE.is("STACK of 12, not REACHED", x.bound(12, 0), BoundCode.NONE);
    }

    /** 2^63 - 1 is 7 * 7 * 73 * 127 * 337 * 92737 * 649657; LOOPS of these cost for END alone. */
    private static void edges() {
        BoundCode x = new BoundCode();
        x.cost(14, 0);
        x.cost(17, 0);
        int m = Code.plain(x, "LOOP 649657, LOOP 92737, LOOP 337, LOOP 1, PUSH 1, POP, END, END,"
                + "END, END, RETURN");
        x.cost(0, 0);
        x.cost(1, 0);
        x.cost(15, 0);
        DUE.is("free", x.analyse(m), 0);
        DUE.is("free TIME", x.bound(m, 1), 0);
        x.cost(0, 127 * 73 * 49);
        DUE.is("2^63 - 1", x.analyse(m), 0);
        DUE.is("2^63 - 1", x.bound(m, 1), Long.MAX_VALUE);
        x.cost(17, 1);
        DUE.is("2^63", x.analyse(m), 3);
        DUE.is("2^63", x.bound(m, 1), BoundCode.NONE);
        DUE.is("STACK beside 2^63", x.bound(m, 0), 1);
        beyond(x);
        time("LOOP 1000000000, LOOP 1000000000, LOOP 1000000000, END, END, END, RETURN", -1);
        time(Code.times(8, "LOOP 1000000000") + "," + Code.times(8, "END") + ",RETURN", -1);
        time("PUSH 1, IFNOT 3, RETURN," + Code.times(3, "LOOP 1000000000") + ","
                + Code.times(3, "END") + ",RETURN", -1);
    }

    /** 2^64 and 2^64 + 2^16 would be 0 and 2^16, if they wrapped; only PUSH costs here. */
    private static void beyond(BoundCode x) {
        x.cost(0, 1);
        x.cost(17, 0);
        String much = "LOOP 65536, LOOP 65536, LOOP 65536, LOOP 65536, PUSH 1, POP, END, END, END,"
                + "END,";
        int once = Code.plain(x, much + "RETURN");
        int more = Code.plain(x, much + "LOOP 65536, PUSH 1, POP, END, RETURN");
        int called = Code.plain(x, "LOOP 65536, CALL " + once + ", END, PUSH 1, POP, RETURN");
        for (int m : new int[] {once, more, called}) {
            x.cost(0, 1);
            DUE.is("2^64 and more, analyse(" + m + ")", x.analyse(m), 3);
            DUE.is("2^64 and more, TIME of " + m, x.bound(m, 1), BoundCode.NONE);
            x.cost(0, 1000);
            DUE.is("1000 times as much, analyse(" + m + ")", x.analyse(m), 3);
            DUE.is("1000 times as much, TIME of " + m, x.bound(m, 1), BoundCode.NONE);
        }
    }

    private static void lastAnalyse() {
        BoundCode x = new BoundCode();
        Code.plain(x, "CALL 1, RETURN");
        Code.plain(x, "RETURN");
        Code.plain(x, "CALL 2, RETURN");
        Code.plain(x, "POP");
        DUE.is("before an analyse", x.bound(0, 0), BoundCode.NONE);
        x.analyse(0);
        DUE.is("of a callee", x.bound(1, 1), 1);
        DUE.is("of one that is not REACHED", x.bound(2, 1), BoundCode.NONE);
        x.change(1, 0, 1, 0);
        DUE.is("as it was then", x.bound(0, 1), 3);
        DUE.noMethod("analyse(4)", () -> x.analyse(4));
        DUE.is("after one that threw", x.bound(0, 1), 3);
        x.analyse(2);
        DUE.is("of a cycle", x.bound(2, 0), BoundCode.NONE);
        x.analyse(3);
        DUE.is("of a FAULT", x.bound(3, 0), BoundCode.NONE);
        DUE.is("of one REACHED before", x.bound(0, 0), BoundCode.NONE);
        DUE.noMethod("bound(4, 0)", () -> x.bound(4, 0));
        DUE.noMethod("bound(-1, 0)", () -> x.bound(-1, 0));
        DUE.noMethod("bound(0, 2)", () -> x.bound(0, 2));
        DUE.noMethod("bound(0, -1)", () -> x.bound(0, -1));
    }
}
