/** Promise 6: FAULTS 5 to 9, by the HEIGHTS. */
public final class P06HeightsTest {
    private static final Due DUE = new Due();
    private static final String[] TAKE_TWO = {"SWAP", "ADD", "SUB", "MUL", "LESS", "DIV"};

    public static void main(String[] args) {
        wordsTaken();
        wordsOfOver();
        wordsOfCall();
        wordsOfReturn();
        aboveHundred();
        otherHeights();
        toldOnlyByWhatIsMet();
        heightOfEnd();
        wordsLeft();
        behindTheLast();
        withoutAny();
        lesserOfTwo();
        DUE.end();
    }

    /** METHOD 0 has 1 RESULT and 1 LOCAL; 1 takes 8 words for 1, 2 takes 8 for none, 3 gives 1. */
    private static void fault(String lines, int fault, int place) {
        BoundCode x = new BoundCode();
        Code.method(x, 0, 1, 1, lines);
        x.method(8, 1, 8);
        x.method(8, 0, 8);
        x.method(0, 1, 0);
        DUE.is(lines + ": check", x.check(0), fault);
        DUE.is(lines + ": place", x.place(), place);
    }

    private static void sound(String lines) {
        fault(lines, 0, BoundCode.NONE);
    }

    private static String high(int height, String lines) {
        return (height > 0 ? Code.times(height, "PUSH 1") + "," : "") + lines;
    }

    private static void wordsTaken() {
        DUE.sentence("5 there are not the words that it takes");
        for (String name : new String[] {"POP", "DUP", "STORE 0"}) {
            fault(name + ", PUSH 1, RETURN", 5, 0);
        }
        fault("IFNOT 1, PUSH 1, RETURN", 5, 0);
        sound("PUSH 1, POP, PUSH 1, RETURN");
        sound("PUSH 1, DUP, POP, RETURN");
        sound("PUSH 1, STORE 0, PUSH 1, RETURN");
        sound("PUSH 1, IFNOT 2, PUSH 1, RETURN");
        for (String name : TAKE_TWO) {
            String behind = name.equals("SWAP") ? ", POP, RETURN" : ", RETURN";
            fault(name + behind, 5, 0);
            fault("PUSH 1, " + name + behind, 5, 1);
            sound("PUSH 1, PUSH 1, " + name + behind);
        }
        sound("PUSH 1, RETURN, POP, SWAP, ADD");
    }

    private static void wordsOfOver() {
        DUE.sentence("(OVER k: k + 1;");
        fault("OVER 0, RETURN", 5, 0);
        sound("PUSH 1, OVER 0, POP, RETURN");
        fault("PUSH 1, OVER 1, RETURN", 5, 1);
        sound("PUSH 1, PUSH 1, OVER 1, POP, POP, RETURN");
        fault("PUSH 1, PUSH 1, OVER 2, RETURN", 5, 2);
        fault(high(98, "OVER 98, RETURN"), 5, 98);
        fault(high(99, "OVER 98, RETURN"), 8, 100);
        fault(high(99, "OVER 99, RETURN"), 5, 99);
        fault(high(100, "OVER 99, RETURN"), 6, 100);
        fault(high(100, "OVER 100, RETURN"), 5, 100);
    }

    private static void wordsOfCall() {
        DUE.sentence("16 CALL m: the ARGUMENTS of METHOD m go (the last one is the top), its "
                + "RESULTS come.");
        sound("CALL 3, RETURN");
        fault("CALL 1, RETURN", 5, 0);
        fault(high(7, "CALL 1, RETURN"), 5, 7);
        sound(high(8, "CALL 1, RETURN"));
        fault(high(9, "CALL 1, RETURN"), 8, 10);
        fault(high(7, "CALL 2, PUSH 1, RETURN"), 5, 7);
        fault(high(8, "CALL 2, RETURN"), 5, 9);
        sound(high(8, "CALL 2, PUSH 1, RETURN"));
        sound(high(9, "CALL 2, RETURN"));
    }

    private static void wordsOfReturn() {
        DUE.sentence("RETURN the RESULTS).");
        fault("RETURN", 5, 0);
        sound("PUSH 1, RETURN");
        BoundCode x = new BoundCode();
        Code.plain(x, "RETURN");
        DUE.is("RETURN without RESULTS", x.check(0), 0);
    }

    private static void aboveHundred() {
        DUE.sentence("6 the HEIGHT behind it would be above 100.");
        String drop = "," + Code.times(12, "CALL 2") + ", POP, POP, POP, RETURN";
        sound(high(100, "") + drop.substring(1));
        for (String name : new String[] {"PUSH 1", "DUP", "LOAD 0", "OVER 0", "OVER 98",
            "CALL 3"}) {
            sound(high(99, name + drop));
            fault(high(100, name + ", POP" + drop), 6, 100);
        }
        fault(high(101, "RETURN"), 6, 100);
        sound(high(100, "SWAP" + drop));
        sound(high(100, "CALL 2, " + Code.times(11, "CALL 2") + ", POP, POP, POP, RETURN"));
        BoundCode x = new BoundCode();
        Code.plain(x, high(100, "CALL 1, CALL 2, RETURN"));
        x.method(1, 1, 1);
        x.method(8, 0, 8);
        DUE.is("a CALL that gives what it takes, at 100", x.check(0), 8);
        DUE.is("place behind it", x.place(), 102);
    }

    private static void otherHeights() {
        DUE.sentence("7 a HEIGHT that was told otherwise for where it jumps to, or goes on to (the "
                + "INSTRUCTION that does so later);");
        sound("PUSH 1, PUSH 0, IFNOT 5, POP, PUSH 2, RETURN");
        fault("PUSH 0, IFNOT 3, PUSH 1, PUSH 1, RETURN", 7, 2);
        fault("PUSH 0, PUSH 0, IFNOT 4, POP, RETURN", 7, 3);
        fault("PUSH 1, PUSH 0, IFNOT 5, POP, JUMP 5, RETURN", 7, 4);
        sound("PUSH 1, PUSH 0, IFNOT 6, POP, PUSH 1, JUMP 6, RETURN");
        fault("PUSH 1, PUSH 0, IFNOT 6, POP, PUSH 1, IFNOT 6, RETURN", 7, 5);
        sound("PUSH 1, PUSH 0, IFNOT 5, PUSH 1, IFNOT 5, RETURN");
        fault("PUSH 1, PUSH 0, IFNOT 6, DUP, PUSH 0, IFNOT 6, RETURN", 7, 5);
        fault("PUSH 1, DUP, IFNOT 6, DUP, LOOP 1, END, RETURN", 7, 5);
        fault("PUSH 1, DUP, IFNOT 6, DUP, LOOP 0, END, RETURN", 7, 4);
        fault("PUSH 1, DUP, IFNOT 5, DUP, DUP, LOOP 1, END, RETURN", 7, 4);
        fault("PUSH 1, DUP, IFNOT 5, DUP, CALL 3, RETURN", 7, 4);
        sound("PUSH 1, DUP, IFNOT 5, POP, CALL 3, RETURN");
    }

    private static void toldOnlyByWhatIsMet() {
        DUE.sentence("an INSTRUCTION is MET, if the one before it goes on to it, or one that is "
                + "MET jumps to it.");
        sound("PUSH 1, RETURN, POP, SWAP");
        sound("PUSH 1, RETURN, JUMP 4, RETURN, POP, RETURN");
        sound("PUSH 1, JUMP 4, PUSH 1, JUMP 4, RETURN");
        sound("PUSH 1, JUMP 5, PUSH 1, PUSH 1, IFNOT 5, RETURN");
        fault("PUSH 1, JUMP 3, RETURN, POP, RETURN", 5, 4);
        DUE.sentence("(JUMP and RETURN don't go on;");
        sound("PUSH 1, JUMP 3, POP, RETURN, ADD, RETURN");
        sound("PUSH 1, RETURN, ADD");
        DUE.sentence("LOOP goes on to what is in it, if n is above 0, else to behind its END; END "
                + "goes on, if it is MET.)");
        sound("LOOP 0, POP, END, PUSH 1, RETURN");
        fault("LOOP 1, POP, END, PUSH 1, RETURN", 5, 1);
        sound("LOOP 1, PUSH 1, RETURN, END, POP, RETURN");
        fault("LOOP 1, END, POP, RETURN", 5, 2);
        fault("LOOP 0, END, POP, RETURN", 5, 2);
        sound("LOOP 0, LOOP 1, POP, END, END, PUSH 1, RETURN");
        fault("LOOP 1, LOOP 0, POP, END, POP, END, PUSH 1, RETURN", 5, 4);
    }

    private static void heightOfEnd() {
        DUE.sentence("of END: that is not the one before its LOOP.");
        fault("LOOP 2, PUSH 1, END, RETURN", 7, 2);
        fault("LOOP 1, PUSH 1, END, RETURN", 7, 2);
        fault("PUSH 1, LOOP 2, POP, END, PUSH 1, RETURN", 7, 3);
        sound("PUSH 1, LOOP 2, POP, PUSH 2, END, RETURN");
        sound("LOOP 0, PUSH 1, END, PUSH 1, RETURN");
        fault("LOOP 1, PUSH 0, IFNOT 4, PUSH 1, END, PUSH 1, RETURN", 7, 3);
        fault("LOOP 1, PUSH 1, JUMP 3, END, RETURN", 7, 3);
        sound("LOOP 1, PUSH 1, RETURN, PUSH 1, END, PUSH 1, RETURN");
        fault("PUSH 1, LOOP 1, LOOP 1, POP, END, PUSH 1, END, RETURN", 7, 4);
        fault("PUSH 1, LOOP 1, LOOP 1, END, POP, END, RETURN", 7, 5);
    }

    private static void wordsLeft() {
        DUE.sentence("8 RETURN with more words than the RESULTS.");
        sound("PUSH 1, RETURN");
        fault("PUSH 1, PUSH 1, RETURN", 8, 2);
        fault(high(100, "RETURN"), 8, 100);
        BoundCode x = new BoundCode();
        Code.plain(x, "RETURN");
        Code.plain(x, "PUSH 1, RETURN");
        DUE.is("RETURN without RESULTS", x.check(0), 0);
        DUE.is("RETURN without RESULTS with a word", x.check(1), 8);
        fault("LOOP 1, PUSH 1, PUSH 1, RETURN, END, PUSH 1, RETURN", 8, 3);
    }

    private static void behindTheLast() {
        DUE.sentence("9 it goes on behind the last one");
        fault("PUSH 1", 9, 0);
        fault("PUSH 1, POP", 9, 1);
        sound("PUSH 1, RETURN");
        sound("PUSH 1, RETURN, PUSH 1");
        fault("PUSH 1, JUMP 3, RETURN, DUP", 9, 3);
        fault("LOOP 1, END", 9, 1);
        fault("LOOP 0, END", 9, 0);
        fault("PUSH 1, LOOP 0, PUSH 1, RETURN, END", 9, 1);
        sound("LOOP 1, PUSH 1, RETURN, END");
        fault("LOOP 1, LOOP 0, END, END", 9, 3);
        fault("LOOP 0, LOOP 1, END, END", 9, 0);
        fault("CALL 3", 9, 0);
        fault(Code.times(60, "PUSH 1, POP"), 9, 119);
        sound(Code.times(59, "PUSH 1, POP") + ", PUSH 1, RETURN");
    }

    private static void withoutAny() {
        DUE.sentence("(without any: at 0).");
        fault("", 9, 0);
        BoundCode x = new BoundCode();
        x.method(8, 1, 16);
        DUE.is("without any, with ARGUMENTS", x.check(0), 9);
        DUE.is("its place", x.place(), 0);
    }

    private static void lesserOfTwo() {
        DUE.sentence("Of two at one the lesser.");
        fault("POP", 5, 0);
        fault("PUSH 1, SWAP", 5, 1);
        fault("CALL 1", 5, 0);
        fault("PUSH 1, PUSH 1, IFNOT 5, POP, POP, RETURN", 5, 4);
        fault("LOOP 1, PUSH 1, END", 7, 2);
        fault("PUSH 1, LOOP 1, POP, END", 7, 3);
        fault(high(100, "PUSH 1"), 6, 100);
        fault(high(100, "IFNOT 102, DUP, DUP, RETURN"), 7, 101);
        fault(high(100, "IFNOT 103, DUP, DUP, RETURN"), 6, 102);
    }
}
