/** Promises 29 to 31. */
public final class FitTest {
    private static final Check c = new Check();
    private static final int ALL_LABELS = 1023;

    public static void main(String[] args) {
        tellsWho();
        tellsWanted();
        tellsWasOff();
        c.end();
    }

    private static void tellsWho() {
        c.part("promise 29");
        RabbitList x = Check.told("r0,0;p1,1,3;z1,9;z1,8;z2,1;");
        Check.fill(x, 0, 0, 99, 3, 3);
        c.due("who(0, 0, ..)", x.who(0, 0, 0, 1, 2), 2);
        c.due("who(0, 1, ..)", x.who(0, 1, 0, 1, 2), 6);
        c.due("who(0, 2, ..)", x.who(0, 2, 0, 1, 2), 8);
        c.due("who(0, 0, ..), not so", x.who(0, 0, 0, 0, 3), 0);
        Check.fill(x, 1, 1, 6, 6);
        c.due("who(0, 0, ..)", x.who(0, 0, 1, 0, 2), 12);
        c.due("who(0, 2, ..)", x.who(0, 2, 1, 0, 2), 64);
        x.row(2, 2, 40);
        c.due("who(0, 0, ..), zeros", x.who(0, 0, 2, 0, 12), 48);
        c.due("who(0, 1, ..), zeros", x.who(0, 1, 2, 28, 12), ALL_LABELS - 6);
        c.due("who(0, 2, ..), zeros", x.who(0, 2, 2, 0, 12), 1);
        x.taps(1);
        c.due("who(0, 0, ..), off the list", x.who(0, 0, 0, 1, 2), 62);
        c.due("who(0, 1, ..), off the list", x.who(0, 1, 0, 1, 2), ALL_LABELS);
        c.due("who(0, 1, ..), off the list, not so", x.who(0, 1, 1, 0, 2), 0);
        c.due("kind(0), nothing changed", x.kind(0), 1);
        c.due("who(1, ..)", x.who(1, 0, 0, 0, 1), Check.BAD);
        c.due("who(-1, ..)", x.who(-1, 0, 0, 0, 1), Check.BAD);
        c.due("who(0, 3, ..)", x.who(0, 3, 0, 0, 1), Check.BAD);
        c.due("who(0, -1, ..)", x.who(0, -1, 0, 0, 1), Check.BAD);
        c.due("who(.., 8, ..)", x.who(0, 0, 8, 0, 1), Check.BAD);
        c.due("who(.., -1, ..)", x.who(0, 0, -1, 0, 1), Check.BAD);
        c.due("who, n 0", x.who(0, 0, 2, 0, 0), Check.BAD);
        c.due("who, n 13", x.who(0, 0, 2, 0, 13), Check.BAD);
        c.due("who, n -1, missing", x.who(0, 0, 7, 0, -1), Check.BAD);
        c.due("who, missing", x.who(0, 0, 7, -1, 1), Check.NULL);
        c.due("who, i -1", x.who(0, 0, 0, -1, 1), Check.PLACE);
        c.due("who, beyond the end", x.who(0, 0, 0, 2, 2), Check.PLACE);
        c.due("who, the most of i", x.who(0, 0, 0, Integer.MAX_VALUE, 12), Check.PLACE);
    }

    private static void tellsWanted() {
        c.part("promise 30");
        RabbitList x = Check.told("r0,0;p1,1,3;h2,1,0;z1,9;");
        Check.fill(x, 0, 0, 0, 0, 3, 3);
        c.due("wanted(0, 0, ..)", x.wanted(0, 0, 0, 0, 2), ALL_LABELS - 2);
        c.due("wanted(0, 0, ..)", x.wanted(0, 0, 0, 2, 2), 2);
        c.due("wanted(0, 0, ..)", x.wanted(0, 0, 0, 1, 2), 0);
        c.due("wanted(0, 1, ..)", x.wanted(0, 1, 0, 2, 2), 2097150);
        x = Check.told("r0,0;l1,1,3;p2,1,4;z1,5;z2,5;");
        Check.fill(x, 0, 2, 0, 4, 7, 0, 4, 4);
        c.due("wanted(0, 1, ..)", x.wanted(0, 1, 0, 0, 3), 2097144);
        c.due("wanted(1, 1, ..)", x.wanted(1, 1, 0, 0, 3), 2097148);
        c.due("wanted(0, 1, ..)", x.wanted(0, 1, 0, 3, 3), 6);
        c.due("seat(0, 1), nothing changed", x.seat(0, 1), 5);
        c.due("wanted(2, ..)", x.wanted(2, 0, 0, 0, 1), Check.BAD);
        c.due("wanted(-1, ..)", x.wanted(-1, 0, 0, 0, 1), Check.BAD);
        c.due("wanted(0, 2, ..)", x.wanted(0, 2, 0, 0, 1), Check.BAD);
        c.due("wanted(0, -1, ..)", x.wanted(0, -1, 0, 0, 1), Check.BAD);
        c.due("wanted(.., 8, ..)", x.wanted(0, 0, 8, 0, 1), Check.BAD);
        c.due("wanted, n 0", x.wanted(0, 0, 0, 0, 0), Check.BAD);
        c.due("wanted, n 13", x.wanted(0, 0, 0, 0, 13), Check.BAD);
        c.due("wanted, missing", x.wanted(0, 0, 7, 0, 1), Check.NULL);
        c.due("wanted, beyond the end", x.wanted(0, 0, 0, 0, 7), Check.PLACE);
        c.due("wanted, i -1", x.wanted(0, 0, 0, -1, 1), Check.PLACE);
        x.taps(2);
        c.due("wanted(1, ..), pleased", x.wanted(1, 0, 0, 0, 1), Check.STATE);
        c.due("wanted(1, ..), pleased, missing", x.wanted(1, 0, 7, 0, 1), Check.STATE);
        c.due("wanted(1, ..), pleased, n 0", x.wanted(1, 0, 7, 0, 0), Check.BAD);
    }

    private static void tellsWasOff() {
        c.part("promise 31");
        RabbitList x = Check.told("r0,0;p1,1,3;p1,1,4;p2,1,5;z1,9;z2,9;");
        Check.fill(x, 0, 0, 3, 8, 4, 9, 3, 3);
        c.due("wasOff, as it is", x.wasOff(0, 0, 1), 64 + 6);
        c.due("wasOff, as it is not", x.wasOff(0, 0, 2), 64 + 2);
        c.due("wasOff, thing 0", x.wasOff(0, 2, 2), 1);
        c.due("wasOff, thing 2", x.wasOff(0, 4, 2), 4);
        c.due("wasOff, none", x.wasOff(0, 1, 2), 0);
        x.off(1);
        c.due("wasOff, of the list alone", x.wasOff(0, 0, 2), 64);
        c.due("count(4), nothing changed", x.count(4), 2);
        x.taps(1);
        c.due("wasOff, all together", x.wasOff(0, 1, 1), 64);
        c.due("wasOff(8, ..)", x.wasOff(8, 0, 1), Check.BAD);
        c.due("wasOff, n 0", x.wasOff(0, 0, 0), Check.BAD);
        c.due("wasOff, n 13", x.wasOff(0, 0, 13), Check.BAD);
        c.due("wasOff, missing", x.wasOff(7, 0, 1), Check.NULL);
        c.due("wasOff, beyond the end", x.wasOff(0, 5, 2), Check.PLACE);
        c.due("wasOff, i -1", x.wasOff(0, -1, 1), Check.PLACE);
        c.due("wasOff(8, ..), no show", new RabbitList().wasOff(8, 0, 1), Check.STATE);
    }
}
