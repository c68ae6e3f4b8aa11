/** Promises 6 to 8. */
public final class TellTest {
    private static final Check c = new Check();
    private static final String THINGS6 = Check.repeat("p0,1,0;", 6);
    private static final String SEATS6 = Check.repeat("z0,1;", 6);

    public static void main(String[] args) {
        feeds();
        reads();
        findsFaults();
        keepsWhatStands();
        c.end();
    }

    private static void feeds() {
        c.part("promise 6");
        RabbitList x = new RabbitList();
        c.due("feed(-1)", x.feed(-1), Check.BAD);
        c.due("feed(256)", x.feed(256), Check.BAD);
        c.due("feed(0)", x.feed(0), 1);
        c.due("feed(255)", x.feed(255), 2);
        c.due("count(7)", x.count(7), 2);
        for (int i = 3; i <= 120; i++) {
            c.due("feed(9)", x.feed(9), i);
        }
        c.due("feed(9), one more", x.feed(9), Check.FULL);
        c.due("feed(256), one more", x.feed(256), Check.BAD);
        c.due("count(7)", x.count(7), 120);
        c.due("show()", x.show(), -1000100);
        c.due("count(7)", x.count(7), 0);
        c.due("feed(9)", x.feed(9), 1);
    }

    private static void reads() {
        c.part("promise 7");
        RabbitList x = new RabbitList();
        c.due("show()", Check.tell(x, "r60,9;p0,20,9;b1,1,0;f9,2,1;l3,4,5;h6,7,8;p2,2,2;" + SEATS6), 6);
        c.due("count(1)", x.count(1), 6);
        c.due("count(2)", x.count(2), 6);
        c.due("count(4)", x.count(4), 6);
        for (int t = 0; t < 6; t++) {
            c.due("list(" + t + ")", x.list(t), t);
            c.due("kind(" + t + ")", x.kind(t), t == 5 ? 1 : t + 1);
        }
        c.due("thing(3, 0)", x.thing(3, 0), 3);
        c.due("thing(3, 1)", x.thing(3, 1), 4);
        c.due("thing(3, 2)", x.thing(3, 2), 5);
        c.due("fault()", x.fault(), 0);
        c.due("two figures", Check.tell(x, "r00,09;p01,01,05;z09,20;"), 1);
        c.due("seat(0, 0)", x.seat(0, 0), 9);
        c.due("seat(0, 1)", x.seat(0, 1), 20);
        c.due("no seat", Check.tell(x, "r1,1;f0,1,0;"), 1);
        c.due("count(2)", x.count(2), 0);
        c.due("the longest", Check.tell(x, "r60,09;" + Check.repeat("p09,20,09;", 6) + Check.repeat("z09,20;", 6)), 6);
        c.due("fault() yet", x.fault(), 0);
    }

    private static void fault(String text, int place, int number) {
        RabbitList x = new RabbitList();
        c.due("show() of " + text, Check.tell(x, text), -1000100 - place);
        c.due("fault() of " + text, x.fault(), number);
        c.due("count(7)", x.count(7), 0);
        c.due("count(1)", x.count(1), 0);
    }

    private static void findsFaults() {
        c.part("promise 8");
        fault("", 0, 1);
        fault("x", 0, 1);
        fault("p0,1,0;", 0, 1);
        fault("R0,0;", 0, 1);
        fault("123", 0, 1);
        fault("r", 1, 1);
        fault("r,", 1, 1);
        fault("r 0,0;", 1, 1);
        fault("rr", 1, 1);
        fault("r61,0;", 1, 2);
        fault("r61", 1, 2);
        fault("r100,0;", 1, 1);
        fault("r000,0;", 1, 1);
        fault("r0000000000000000000", 1, 1);
        fault("r0", 2, 1);
        fault("r0;", 2, 1);
        fault("r60.0;", 3, 1);
        fault("r0,;", 3, 1);
        fault("r0,10;", 3, 2);
        fault("r0,0", 4, 1);
        fault("r0,0,", 4, 1);
        fault("r0,0;", 5, 1);
        fault("r0,0;z0,1;", 5, 1);
        fault("r0,0;r0,0;", 5, 1);
        fault("r0,0;q0,1,0;", 5, 1);
        fault("r0,0;" + (char) 233, 5, 1);
        fault("r0,0; p0,1,0;", 5, 1);
        fault("r0,0;p", 6, 1);
        fault("r0,0;p10,1,0;", 6, 2);
        fault("r0,0;p0;", 7, 1);
        fault("r0,0;p0,0,0;", 8, 2);
        fault("r0,0;p0,00,0;", 8, 2);
        fault("r0,0;p0,21,0;", 8, 2);
        fault("r0,0;p0,210,0;", 8, 1);
        fault("r0,0;p0,1;", 9, 1);
        fault("r0,0;p0,1,10;", 10, 2);
        fault("r0,0;p0,1,0", 11, 1);
        fault("r0,0;p0,1,0,", 11, 1);
        fault("r0,0;p0,1,0;;", 12, 1);
        fault("r0,0;p0,1,0;z", 13, 1);
        fault("r0,0;p0,1,0;z10,1;", 13, 2);
        fault("r0,0;p0,1,0;z0;", 14, 1);
        fault("r0,0;p0,1,0;z0,0;", 15, 2);
        fault("r0,0;p0,1,0;z0,21;", 15, 2);
        fault("r0,0;p0,1,0;z0,1,", 16, 1);
        fault("r0,0;p0,1,0;z0,1", 16, 1);
        fault("r0,0;p0,1,0;z0,1;p0,1,0;", 17, 1);
        fault("r0,0;p0,1,0;z0,1;y", 17, 1);
        fault("r0,0;" + THINGS6 + "p", 47, 3);
        fault("r0,0;" + THINGS6 + "h0,1,0;", 47, 3);
        fault("r0,0;" + THINGS6 + "q", 47, 1);
        fault("r0,0;" + THINGS6 + "0", 47, 1);
        fault("r0,0;" + THINGS6 + "z0,1;p", 52, 1);
        fault("r0,0;p0,1,0;" + SEATS6 + "z", 42, 3);
        fault("r0,0;p0,1,0;" + SEATS6 + "z0,1;", 42, 3);
        fault("r0,0;p0,1,0;" + SEATS6 + "p", 42, 1);
        fault(Check.repeat("r", 120), 1, 1);

        RabbitList x = new RabbitList();
        Check.tell(x, "r0,99;");
        c.due("fault()", x.fault(), 2);
        Check.tell(x, "r0,0;p0,1,0;");
        c.due("fault() behind a show that is read", x.fault(), 2);
        Check.tell(x, "r");
        c.due("fault(), the latest", x.fault(), 1);
    }

    private static void keepsWhatStands() {
        c.part("promise 7, all stays");
        RabbitList x = Check.told("r7,0;p1,5,3;b2,9,4;z2,3;z1,8;");
        x.taps(1);
        x.off(1);
        c.due("a fault", Check.tell(x, "r0,0;p0,1,0;p"), -1000113);
        c.due("count(1)", x.count(1), 2);
        c.due("count(2)", x.count(2), 2);
        c.due("count(3)", x.count(3), 1);
        c.due("count(5)", x.count(5), 3);
        c.due("count(6)", x.count(6), 2);
        c.due("pack(1)", x.pack(1), 3);
        c.due("undo()", x.undo(), 1);
        c.due("list(0)", x.list(0), 1);
        c.due("another show", Check.tell(x, "r0,0;l3,1,0;z4,2;"), 1);
        c.due("count(1)", x.count(1), 1);
        c.due("count(2)", x.count(2), 1);
        c.due("count(3)", x.count(3), 0);
        c.due("count(4)", x.count(4), 1);
        c.due("count(5)", x.count(5), 0);
        c.due("count(6)", x.count(6), 0);
        c.due("undo()", x.undo(), Check.STATE);
        c.due("stand(0)", x.stand(0), 1);
        c.due("stand(1)", x.stand(1), 0);
        c.due("stand(2)", x.stand(2), 0);
    }
}
