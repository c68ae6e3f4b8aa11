/** Promises 32 and 33. */
public final class ChanceTest {
    private static final Check c = new Check();

    public static void main(String[] args) {
        wanders();
        draws();
        c.end();
    }

    private static void likely(RabbitList x, int k, int n, int p, long above, long below) {
        String call = "wander(" + k + ", " + n + ", " + p + ", ";
        c.due(call + "0)", x.wander(k, n, p, 0), above);
        c.due(call + "1)", x.wander(k, n, p, 1), below);
    }

    private static void wanders() {
        c.part("promise 32");
        RabbitList x = Check.told("r0,0;p1,1,3;z1,9;");
        likely(x, 3, 1, 4, 3, 5);
        likely(x, 0, 1, 4, 1, 1);
        likely(x, 4, 1, 4, 0, 1);
        likely(x, 1, 0, 4, 0, 1);
        likely(x, 0, 0, 4, 1, 1);
        likely(x, 3, 30, 10, 0, 1);
        likely(x, 3, 30, 0, 1, 1);
        likely(x, 999, 30, 0, 0, 1);
        likely(Check.told("r0,0;p1,1,3;z1,9;z1,9;"), 3, 1, 5, 3, 4);
        RabbitList six = Check.told("r0,0;f1,1,1;z1,9;z1,9;z1,9;z1,9;z1,9;z1,9;");
        likely(six, 6, 1, 7, 729, 1000000);
        likely(six, 1, 1, 7, 882351, 1000000);
        likely(six, 1, 1, 5, 63, 64);
        RabbitList live = Check.told("r0,0;l1,1,5;p2,1,1;z1,9;z2,1;z2,2;");
        likely(live, 6, 3, 5, 1, 4);
        x.taps(1);
        likely(x, 3, 0, 9, 1, 1);
        likely(x, 4, 30, 9, 0, 1);
        c.due("count(3), nothing changed", x.count(3), 1);
        c.due("wander(-1, ..)", x.wander(-1, 0, 0, 0), Check.BAD);
        c.due("wander(1000, ..)", x.wander(1000, 0, 0, 0), Check.BAD);
        c.due("wander(0, -1, ..)", x.wander(0, -1, 0, 0), Check.BAD);
        c.due("wander(0, 31, ..)", x.wander(0, 31, 0, 0), Check.BAD);
        c.due("wander(0, 0, -1, 0)", x.wander(0, 0, -1, 0), Check.BAD);
        c.due("wander(0, 0, 11, 0)", x.wander(0, 0, 11, 0), Check.BAD);
        c.due("wander(0, 0, 0, 2)", x.wander(0, 0, 0, 2), Check.BAD);
        c.due("wander(0, 0, 0, -1)", x.wander(0, 0, 0, -1), Check.BAD);
        c.due("wander(-1, ..), no show", new RabbitList().wander(-1, 0, 0, 0), Check.STATE);
    }

    private static void run(RabbitList x, int n, int seed, int clapped, int often) {
        c.due("drawn(" + n + ", " + seed + ", 0)", x.drawn(n, seed, 0), clapped);
        c.due("drawn(" + n + ", " + seed + ", 1)", x.drawn(n, seed, 1), often);
    }

    // From 1 the draws are 16807, 282475249, 1622650073, 984943658, 1144108930, 470211272, 101027544.
    private static void draws() {
        c.part("promise 33");
        RabbitList x = Check.told("r0,0;p9,1,3;z9,1;");
        run(x, 0, 1, 0, 0);
        run(x, 1, 1, 3, 1);
        run(x, 2, 1, 6, 2);
        run(x, 3, 1, 6, 2);
        c.due("count(3), nothing changed", x.count(3), 0);
        c.due("count(4), nothing changed", x.count(4), 1);
        x.taps(1);
        run(x, 0, 1, 3, 0);
        run(x, 1, 1, 3, 0);
        run(Check.told("r0,0;f9,1,2;z9,5;z9,5;"), 1, 1, 4, 2);
        run(Check.told("r0,0;p9,1,2;"), 60, 999999, 0, 0);
        c.part("promise 33, the one of draw 2 waits for 5 taps");
        x = Check.told("r0,0;p4,1,3;z4,1;");
        run(x, 6, 1, 3, 1);
        run(x, 7, 1, 6, 2);
        run(Check.told("r0,0;p8,1,3;z8,1;"), 7, 1, 3, 1);
        run(Check.told("r0,0;p0,1,3;z0,1;"), 7, 1, 3, 1);
        c.part("promise 33, nothing is brought back to a list that is not empty");
        x = Check.told("r0,0;p7,1,3;p9,1,5;z9,9;");
        x.off(1);
        run(x, 1, 1, 0, 0);
        x.off(0);
        run(x, 1, 1, 5, 1);
        c.due("drawn(-1, ..)", x.drawn(-1, 1, 0), Check.BAD);
        c.due("drawn(61, ..)", x.drawn(61, 1, 0), Check.BAD);
        c.due("drawn(0, 0, 0)", x.drawn(0, 0, 0), Check.BAD);
        c.due("drawn(0, 1000000, 0)", x.drawn(0, 1000000, 0), Check.BAD);
        c.due("drawn(0, 1, 2)", x.drawn(0, 1, 2), Check.BAD);
        c.due("drawn(0, 1, -1)", x.drawn(0, 1, -1), Check.BAD);
        c.due("drawn(-1, ..), no show", new RabbitList().drawn(-1, 1, 0), Check.STATE);
    }
}
