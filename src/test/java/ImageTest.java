/** Promises 34 and 35. */
public final class ImageTest {
    private static final Check c = new Check();

    public static void main(String[] args) {
        c.part("promise 34");
        RabbitList x = new RabbitList();
        c.due("image(0), no show", x.image(0), Check.STATE);
        c.due("image(2), no show", x.image(2), Check.BAD);
        c.due("restore(0)", x.restore(0), Check.STATE);
        Check.tell(x, "r9,3;h0,1,0;b1,8,4;z1,9;z0,2;");
        c.due("image(-1)", x.image(-1), Check.BAD);
        c.due("image(2)", x.image(2), Check.BAD);
        c.due("image(0)", x.image(0), 1);
        x.taps(2);
        c.due("image(1)", x.image(1), 1);
        c.due("count(6), no act and none forgotten", x.count(6), 2);
        restores(x);
        c.end();
    }

    private static void restores(RabbitList x) {
        c.part("promise 35");
        c.due("restore(-1)", x.restore(-1), Check.BAD);
        c.due("restore(2)", x.restore(2), Check.BAD);
        c.due("restore(0)", x.restore(0), 1);
        c.due("count(6)", x.count(6), 0);
        c.due("undo()", x.undo(), Check.STATE);
        c.due("count(3)", x.count(3), 0);
        c.due("count(5)", x.count(5), 0);
        c.due("list(0)", x.list(0), 0);
        c.due("stand(0)", x.stand(0), 3);
        c.due("seat(0, 1)", x.seat(0, 1), 9);
        x.off(0);
        x.row(3, 0, 2);
        x.feed(114);
        c.due("a fault", x.show(), -1000101);
        x.feed(1);
        Check.tell(x, "r0,0;p0,1,0;");
        Check.tell(x, "r0,0;p0,1,0;");
        c.due("count(1), another show", x.count(1), 1);
        x.feed(7);
        c.due("restore(1)", x.restore(1), 1);
        c.due("count(0), rows stay", x.count(0), 1);
        c.due("count(1)", x.count(1), 2);
        c.due("count(2)", x.count(2), 2);
        c.due("count(3)", x.count(3), 2);
        c.due("count(4)", x.count(4), 1);
        c.due("count(5)", x.count(5), 8);
        c.due("count(7), the tape stays", x.count(7), 1);
        c.due("fault() stays", x.fault(), 1);
        c.due("pack(1)", x.pack(1), 4);
        c.due("seat(1, 1)", x.seat(1, 1), 3);
        c.due("kind(1)", x.kind(1), 2);
        x.taps(1);
        c.due("count(6)", x.count(6), 1);
        c.due("restore(1), as it was kept", x.restore(1), 1);
        c.due("count(3)", x.count(3), 2);
        c.due("image(0), anew", x.image(0), 1);
        x.taps(3);
        c.due("restore(0)", x.restore(0), 1);
        c.due("count(3)", x.count(3), 2);
    }
}
