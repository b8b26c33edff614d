/** Promise 7: place; the tests of check ask it for every FAULT. */
public final class P07PlaceTest {
    private static final Due DUE = new Due();

    public static void main(String[] args) {
        beforeOne();
        ofTheLastCheck();
        firstAndLast();
        DUE.end();
    }

    private static BoundCode faulty() {
        BoundCode x = new BoundCode();
        Code.plain(x, "PUSH 1, POP, POP, RETURN");
        Code.plain(x, "RETURN");
        return x;
    }

    private static void askAllElse(BoundCode x) {
        x.height(0, 0);
        x.analyse(0);
        x.run(0, 5);
        x.told(0, 1);
        x.bound(0, 0);
        x.about(0, 0);
    }

    private static void beforeOne() {
        DUE.sentence("NONE when it had none, or before one.");
        DUE.is("place of a new object", new BoundCode().place(), BoundCode.NONE);
        BoundCode x = faulty();
        DUE.is("place before a check", x.place(), BoundCode.NONE);
        askAllElse(x);
        DUE.is("no other call is a check", x.place(), BoundCode.NONE);
        DUE.noMethod("check(2)", () -> x.check(2));
        DUE.is("nor is one that throws", x.place(), BoundCode.NONE);
        DUE.is("check(1)", x.check(1), 0);
        DUE.is("place without a FAULT", x.place(), BoundCode.NONE);
        x.check(0);
        DUE.is("place with one", x.place(), 2);
        x.check(1);
        DUE.is("place without again", x.place(), BoundCode.NONE);
    }

    private static void ofTheLastCheck() {
        DUE.sentence("The INSTRUCTION of the FAULT of the last check();");
        BoundCode x = faulty();
        DUE.is("check(0)", x.check(0), 5);
        DUE.is("place", x.place(), 2);
        DUE.is("place once more", x.place(), 2);
        DUE.noMethod("check(2)", () -> x.check(2));
        DUE.noMethod("check(-1)", () -> x.check(-1));
        DUE.is("place after a check that threw", x.place(), 2);
        x.change(0, 2, 12, 3);
        askAllElse(x);
        x.method(0, 0, 0);
        x.add(0, 99, 0);
        DUE.is("place is of the last check, not of now", x.place(), 2);
        DUE.is("check(0)", x.check(0), 1);
        DUE.is("place", x.place(), 4);
    }

    private static void firstAndLast() {
        DUE.sentence("The INSTRUCTION of the FAULT of the last check();");
        BoundCode x = new BoundCode();
        Code.plain(x, Code.times(120, "RETURN"));
        x.change(0, 119, 18, 0);
        x.check(0);
        DUE.is("place of the last one there can be", x.place(), 119);
        x.change(0, 0, 18, 0);
        x.check(0);
        DUE.is("place of the first one", x.place(), 0);
        x.method(0, 0, 0);
        x.change(0, 0, 17, 0);
        x.check(0);
        x.check(1);
        DUE.is("place without INSTRUCTIONS", x.place(), 0);
    }
}
