/** Promise 9: analyse; what is REACHED is asked with told() and bound(). */
public final class P09AnalyseTest {
    private static final Due DUE = new Due();

    public static void main(String[] args) {
        answers();
        noSuchMethod();
        reached();
        faults();
        faultsAreNotFollowed();
        cycles();
        firstMethod();
        thirtyTwo();
        tooGreat();
        tooGreatWhereItIsReached();
        DUE.end();
    }

    /** Whether each METHOD is REACHED, as one digit each. */
    private static void reached(BoundCode x, int from, int answer, String due) {
        DUE.is("analyse(" + from + ")", x.analyse(from), answer);
        for (int m = 0; m < due.length(); m++) {
            DUE.is("told(" + m + ", 0) from " + from, x.told(m, 0), due.charAt(m) - '0');
        }
    }

    private static void answers() {
        DUE.sentence("ANALYSING from a METHOD. Answers 0 .. 3.");
        BoundCode x = new BoundCode();
        Code.plain(x, "RETURN");
        Code.plain(x, "POP");
        Code.plain(x, "CALL 2, RETURN");
        Code.plain(x, Code.times(3, "LOOP 1000000000") + "," + Code.times(3, "END") + ",RETURN");
        for (int answer : new int[] {3, 1, 0, 2, 1, 3, 2, 0}) {
            DUE.is("analyse(" + answer + ")", x.analyse(answer), answer);
        }
        Code.plain(x, "CALL 1, CALL 2, CALL 3, RETURN");
        Code.plain(x, "CALL 2, CALL 3, RETURN");
        Code.plain(x, "CALL 0, CALL 3, RETURN");
        DUE.is("of a FAULT, a cycle and too great a bound", x.analyse(4), 1);
        DUE.is("of a cycle and too great a bound", x.analyse(5), 2);
        DUE.is("of too great a bound", x.analyse(6), 3);
    }

    private static void noSuchMethod() {
        DUE.sentence("Answers 0 .. 3. IndexOutOfBoundsException: there is no such METHOD.");
        BoundCode x = new BoundCode();
        DUE.noMethod("analyse(0) of none", () -> x.analyse(0));
        for (int count = 1; count <= 32; count++) {
            int behind = count;
            Code.plain(x, "RETURN");
            DUE.is("analyse of the last of " + count, x.analyse(count - 1), 0);
            DUE.noMethod("analyse(" + behind + ")", () -> x.analyse(behind));
        }
        for (int m : new int[] {-1, 33, Integer.MIN_VALUE, Integer.MAX_VALUE}) {
            DUE.noMethod("analyse(" + m + ")", () -> x.analyse(m));
        }
        DUE.is("of the last that did not throw", x.told(31, 0), 1);
    }

    private static void reached() {
        DUE.sentence("ANALYSING from a METHOD: those of its CALLS that are MET, of those of these, "
                + "and so on, are REACHED.");
        BoundCode x = new BoundCode();
        Code.plain(x, "CALL 1, RETURN");
        Code.plain(x, "CALL 2, CALL 3, RETURN");
        Code.plain(x, "RETURN");
        Code.plain(x, "RETURN, CALL 4");
        Code.plain(x, "LOOP 0, CALL 5, END, RETURN");
        Code.plain(x, "LOOP 1, CALL 6, RETURN, END, CALL 2");
        Code.plain(x, "JUMP 2, CALL 0, PUSH 0, IFNOT 5, CALL 4, RETURN");
        reached(x, 0, 0, "1111000");
        reached(x, 1, 0, "0111000");
        reached(x, 2, 0, "0010000");
        reached(x, 3, 0, "0001000");
        reached(x, 4, 0, "0000100");
        reached(x, 5, 0, "0000111");
        reached(x, 6, 0, "0000101");
        x.change(4, 0, 14, 1);
        reached(x, 4, 2, "0000111");
    }

    private static void faults() {
        DUE.sentence("If a FAULT is in one that is REACHED: 1");
        BoundCode x = new BoundCode();
        Code.plain(x, "CALL 1, RETURN");
        Code.plain(x, "CALL 2, RETURN");
        Code.plain(x, "POP");
        Code.plain(x, "RETURN, CALL 2");
        Code.plain(x, "PUSH 1, CALL 4");
        x.method(0, 0, 0);
        DUE.is("of one with a FAULT", x.analyse(2), 1);
        DUE.is("of one that CALLS it", x.analyse(1), 1);
        DUE.is("of one that CALLS that", x.analyse(0), 1);
        DUE.is("of one whose CALL of it is not MET", x.analyse(3), 0);
        DUE.is("of one with a FAULT that CALLS itself", x.analyse(4), 1);
        DUE.is("of one without INSTRUCTIONS", x.analyse(5), 1);
        x.change(2, 0, 17, 0);
        DUE.is("without the FAULT", x.analyse(0), 0);
    }

    private static void faultsAreNotFollowed() {
        DUE.sentence("(those of METHODS with a FAULT are not followed).");
        BoundCode x = new BoundCode();
        Code.plain(x, "CALL 1, RETURN");
        Code.plain(x, "CALL 2, POP");
        Code.plain(x, "RETURN");
        reached(x, 0, 1, "110");
        reached(x, 1, 1, "010");
        x.change(1, 1, 99, 0);
        reached(x, 0, 1, "110");
        x.change(1, 1, 17, 0);
        reached(x, 0, 0, "111");
        x.add(1, 16, 3);
        reached(x, 0, 1, "110");
        x.change(1, 2, 16, 0);
        reached(x, 0, 0, "111");
        x.change(0, 1, 1, 0);
        reached(x, 0, 1, "100");
    }

    private static void cycles() {
        DUE.sentence("Else, if one is REACHED that can come to itself by CALLS that are MET: 2.");
        BoundCode x = new BoundCode();
        Code.plain(x, "CALL 1, RETURN");
        Code.plain(x, "CALL 2, RETURN");
        Code.plain(x, "CALL 3, RETURN");
        Code.plain(x, "RETURN, CALL 3");
        DUE.is("of a chain", x.analyse(0), 0);
        DUE.is("of a CALL of itself behind RETURN", x.analyse(3), 0);
        x.change(2, 0, 16, 2);
        DUE.is("of one that CALLS itself", x.analyse(2), 2);
        DUE.is("of one that comes to such a one", x.analyse(0), 2);
        x.change(2, 0, 16, 1);
        DUE.is("of a cycle of two", x.analyse(1), 2);
        DUE.is("of one that comes to it", x.analyse(0), 2);
        x.change(2, 0, 16, 0);
        DUE.is("of a cycle of three", x.analyse(0), 2);
        DUE.is("of one outside of it", x.analyse(3), 0);
        x.change(2, 0, 14, 0);
        x.change(2, 1, 15, 0);
        x.add(2, 17, 0);
        DUE.is("of none any more", x.analyse(0), 0);
        x.change(0, 0, 16, 3);
        x.add(3, 17, 0);
        x.add(0, 16, 0);
        DUE.is("of a CALL of itself behind RETURN", x.analyse(0), 0);
        Code.plain(x, "CALL 2, CALL 2, CALL 3, RETURN");
        DUE.is("of two CALLS of one: that is no cycle", x.analyse(4), 0);
    }

    /** METHOD 0 is one as all others, where it is come to by CALLS. */
    private static void firstMethod() {
        DUE.sentence("Else, if one is REACHED that can come to itself by CALLS that are MET: 2.");
        BoundCode x = new BoundCode();
        Code.plain(x, "CALL 2, RETURN");
        Code.plain(x, "CALL 0, RETURN");
        Code.plain(x, "CALL 1, RETURN");
        DUE.is("of a cycle by way of 0", x.analyse(1), 2);
        for (int m = 0; m < 3; m++) {
            DUE.is(m + " is REACHED", x.told(m, 0), 1);
            DUE.is(m + " can come to itself", x.told(m, 2), 1);
        }
        x.change(0, 0, 16, 0);
        DUE.is("of 0 that CALLS itself", x.analyse(1), 2);
        DUE.is("only 0 can come to itself", x.told(1, 2), 0);
        x.change(0, 0, 1, 0);
        DUE.is("of a FAULT in 0", x.analyse(1), 1);
        DUE.is("it is in 0", x.told(0, 1), 1);
    }

    /** The longest chain that there can be, up and down, and the longest cycle. */
    private static void thirtyTwo() {
        DUE.sentence("METHODS have numbers from 0 on, at most 32");
        BoundCode x = new BoundCode();
        for (int m = 0; m < 32; m++) {
            Code.plain(x, m < 31 ? "CALL " + (m + 1) + ", RETURN" : "RETURN, RETURN");
        }
        reached(x, 0, 0, "1".repeat(32));
        reached(x, 31, 0, "0".repeat(31) + "1");
        x.change(31, 0, 16, 0);
        DUE.is("of a cycle of 32", x.analyse(17), 2);
        for (int m = 0; m < 32; m++) {
            DUE.is("told(" + m + ", 2)", x.told(m, 2), 1);
        }
        BoundCode y = new BoundCode();
        for (int m = 0; m < 32; m++) {
            Code.plain(y, m > 0 ? "CALL " + (m - 1) + ", RETURN" : "RETURN, RETURN");
        }
        reached(y, 31, 0, "1".repeat(32));
        DUE.is("STACK of 31", y.bound(31, 0), 62);
        DUE.is("TIME of 31", y.bound(31, 1), 63);
        y.change(0, 0, 1, 0);
        reached(y, 31, 1, "1".repeat(32));
    }

    private static void tooGreat() {
        DUE.sentence("3 if one of these is above 2^63 - 1 (for any that is REACHED), else 0.");
        BoundCode x = new BoundCode();
        Code.plain(x, "LOOP 1000000000, LOOP 1000000000, LOOP 9, END, END, END, RETURN");
        DUE.is("11 * 10^18 and more", x.analyse(0), 3);
        x.change(0, 2, 14, 7);
        DUE.is("9 * 10^18 and more", x.analyse(0), 0);
        x.change(0, 2, 14, 8);
        DUE.is("10 * 10^18 and more", x.analyse(0), 3);
        x.cost(15, 0);
        DUE.is("END for nothing", x.analyse(0), 0);
        DUE.is("only LOOPS", x.bound(0, 1), 1 + 1000000000L * (1 + 1000000000L) + 1);
        x.cost(14, 0);
        DUE.is("all for nothing", x.analyse(0), 0);
        DUE.is("only RETURN", x.bound(0, 1), 1);
    }

    private static void tooGreatWhereItIsReached() {
        DUE.sentence("3 if one of these is above 2^63 - 1 (for any that is REACHED), else 0.");
        BoundCode x = new BoundCode();
        Code.plain(x, "CALL 1, RETURN");
        Code.plain(x, "RETURN, CALL 2");
        Code.plain(x, Code.times(8, "LOOP 1000000000") + "," + Code.times(8, "END") + ",RETURN");
        DUE.is("of one that is not REACHED", x.analyse(0), 0);
        x.change(1, 0, 16, 2);
        x.change(1, 1, 17, 0);
        DUE.is("of one far away", x.analyse(0), 3);
        x.change(2, 0, 14, 0);
        DUE.is("LOOP of 0", x.analyse(0), 0);
    }
}
