/** Promise 7: place; P06CheckTest asks it for every FAULT. */
public final class P07PlaceTest {
    public static void main(String[] args) {
        Due due = new Due();
        BoundCode x = new BoundCode();
        due.is("place before a check", x.place(), BoundCode.NONE);
        Code.plain(x, "PUSH 1, POP, POP, RETURN");
        Code.plain(x, "RETURN");
        x.height(0, 0);
        x.analyse(0);
        x.run(0, 5);
        due.is("no other call sets it", x.place(), BoundCode.NONE);
        due.is("check(0)", x.check(0), 5);
        due.is("place", x.place(), 2);
        due.noMethod("check(2)", () -> x.check(2));
        due.is("place after a check that threw", x.place(), 2);
        x.change(0, 2, 12, 3);
        x.height(0, 0);
        x.analyse(0);
        x.run(0, 5);
        due.is("place is of the last check, not of now", x.place(), 2);
        due.is("check(0)", x.check(0), 0);
        due.is("place without a FAULT", x.place(), BoundCode.NONE);
        x.change(0, 0, 1, 0);
        x.check(0);
        due.is("place 0", x.place(), 0);
        x.check(1);
        due.is("place of another METHOD", x.place(), BoundCode.NONE);
        due.end();
    }
}
