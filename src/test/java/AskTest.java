/** Promises 36 to 40. */
public final class AskTest {
    private static final Check c = new Check();
    private static final int SIZE = 0, MARK = 1;

    public static void main(String[] args) {
        RabbitList x = Check.told("r0,0;p1,4,0;b1,5,0;f1,6,0;l1,7,0;h1,8,0;z1,9;z1,9;z2,9;");
        tellsKinds(x);
        takesAs(x);
        asks(x);
        counts();
        c.end();
    }

    private static void tellsKinds(RabbitList x) {
        c.part("promise 36");
        for (int t = 0; t < 5; t++) {
            c.due("kind(" + t + ")", x.kind(t), t + 1);
        }
        c.due("kind(5)", x.kind(5), Check.BAD);
        c.due("kind(-1)", x.kind(-1), Check.BAD);
        c.due("kind(0), no show", new RabbitList().kind(0), Check.BAD);
    }

    private static void takesAs(RabbitList x) {
        c.part("promise 37");
        String[] is = {"110000", "111000", "110100", "100010", "100011"};
        for (int t = 0; t < is.length; t++) {
            for (int kind = 0; kind < 6; kind++) {
                boolean one = is[t].charAt(kind) == '1';
                c.due("as(" + t + ", " + kind + ")", x.as(t, kind), one ? t : Check.KIND);
                c.due("status()", x.status(), one ? 0 : 3);
            }
        }
        c.due("as(0, 6)", x.as(0, 6), Check.BAD);
        c.due("as(0, -1)", x.as(0, -1), Check.BAD);
        c.due("as(5, 0)", x.as(5, 0), Check.BAD);
        c.due("as(-1, 0)", x.as(-1, 0), Check.BAD);
        x.off(0);
        c.due("as(0, 1), off the list", x.as(0, 1), 0);
        x.undo();
    }

    private static void ask(RabbitList x, int thing, int what, int answer, int... bodies) {
        c.due("ask(" + thing + ", " + what + ")", x.ask(thing, what), answer);
        for (int i = 0; i < bodies.length; i++) {
            c.due("trace(" + i + ")", x.trace(i), bodies[i]);
        }
        c.due("trace(" + bodies.length + ")", x.trace(bodies.length), Check.NONE);
    }

    private static void asks(RabbitList x) {
        c.part("promises 38 and 39");
        c.due("trace(0) at first", x.trace(0), Check.NONE);
        ask(x, 0, SIZE, 6, 11, 10, 21, 20);
        ask(x, 0, MARK, 2, 21, 20);
        ask(x, 1, SIZE, -11, 12, 11, 10, 24, 21, 20);
        ask(x, 1, MARK, 6, 24, 21, 20);
        ask(x, 2, SIZE, -990, 11, 10, 22, 21, 20);
        ask(x, 2, MARK, -996, 22, 21, 20);
        ask(x, 3, SIZE, -93, 13, 10);
        ask(x, 3, MARK, 96, 23, 20, 13, 10);
        ask(x, 4, SIZE, -184, 14, 13, 10);
        ask(x, 4, MARK, 188, 23, 20, 14, 13, 10);
        c.due("ask(5, 0)", x.ask(5, 0), Check.BAD);
        c.due("ask(-1, 0)", x.ask(-1, 0), Check.BAD);
        c.due("ask(0, 2)", x.ask(0, 2), Check.BAD);
        c.due("ask(0, -1)", x.ask(0, -1), Check.BAD);
        c.due("trace(4), as it was", x.trace(4), 10);
        c.due("trace(-1)", x.trace(-1), Check.NONE);
        c.due("trace(16)", x.trace(16), Check.NONE);
        c.due("trace(most)", x.trace(Integer.MAX_VALUE), Check.NONE);
        x.taps(1);
        ask(x, 0, SIZE, 5, 11, 10, 21, 20);
    }

    private static void counts() {
        c.part("promise 40");
        RabbitList x = Check.told("r0,0;p1,4,6;h1,8,0;z1,9;z1,9;z2,9;");
        x.row(2, 0, 0);
        x.row(5, 0, 0);
        x.taps(1);
        x.taps(3);
        x.feed(0);
        int[] due = {2, 2, 3, 4, 1, 6, 4, 1};
        for (int what = 0; what < due.length; what++) {
            c.due("count(" + what + ")", x.count(what), due[what]);
        }
        c.due("count(8)", x.count(8), Check.BAD);
        c.due("count(-1)", x.count(-1), Check.BAD);
    }
}
