/** Promises 2 to 5, and what of 40 and 41 goes with them. */
public final class RowsTest {
    private static final Check c = new Check();

    public static void main(String[] args) {
        makes();
        sets();
        drops();
        refusesToCopy();
        copies();
        tellsStatus();
        c.end();
    }

    private static void makes() {
        c.part("promise 2");
        RabbitList x = new RabbitList();
        c.due("row(0, 0, 3)", x.row(0, 0, 3), 3);
        c.due("row(7, 2, 40)", x.row(7, 2, 40), 40);
        c.due("row(3, 1, 0)", x.row(3, 1, 0), 0);
        c.due("count(0)", x.count(0), 3);
        c.due("row(0, 2, 5), again", x.row(0, 2, 5), 5);
        c.due("count(0), one in place of another", x.count(0), 3);
        c.due("row(-1, 0, 1)", x.row(-1, 0, 1), Check.BAD);
        c.due("row(8, 0, 1)", x.row(8, 0, 1), Check.BAD);
        c.due("row(0, -1, 1)", x.row(0, -1, 1), Check.BAD);
        c.due("row(0, 3, 1)", x.row(0, 3, 1), Check.BAD);
        c.due("row(0, 0, 41)", x.row(0, 0, 41), Check.BAD);
        c.due("row(8, 0, -1)", x.row(8, 0, -1), Check.BAD);
        c.due("row(0, 3, -1)", x.row(0, 3, -1), Check.BAD);
        c.due("row(0, 0, -1)", x.row(0, 0, -1), Check.SIZE);
        c.due("row(0, 0, least)", x.row(0, 0, Integer.MIN_VALUE), Check.SIZE);
        c.due("row(5, 0, -1)", x.row(5, 0, -1), Check.SIZE);
        c.due("count(0), none came by what was found", x.count(0), 3);
        c.due("set(0, 4, 1), the row of ints stays", x.set(0, 4, 100000), 100000);

        // Items can be read only by comparing them with what they CLAPPED: 0 here, with nobody in a seat.
        RabbitList y = Check.told("r0,0;p0,1,0;");
        Check.fill(y, 0, 0, 7, 7);
        c.due("wasOff over sevens", y.wasOff(0, 0, 2), 0);
        y.row(0, 0, 2);
        c.due("wasOff, a new row is 0", y.wasOff(0, 0, 2), 65);
    }

    private static void sets() {
        c.part("promise 3");
        RabbitList x = new RabbitList();
        x.row(0, 0, 3);
        x.row(1, 1, 40);
        x.row(2, 2, 1);
        x.row(3, 2, 0);
        c.due("byte 127", x.set(0, 0, 127), 127);
        c.due("byte 128", x.set(0, 0, 128), -128);
        c.due("byte 255", x.set(0, 1, 255), -1);
        c.due("byte 300", x.set(0, 2, 300), 44);
        c.due("byte -129", x.set(0, 2, -129), 127);
        c.due("short 32768", x.set(1, 39, 32768), -32768);
        c.due("short 70000", x.set(1, 0, 70000), 4464);
        c.due("short -32769", x.set(1, 0, -32769), 32767);
        c.due("int least", x.set(2, 0, Integer.MIN_VALUE), Integer.MIN_VALUE);
        c.due("int 70000", x.set(2, 0, 70000), 70000);
        c.due("set(0, 3, 1)", x.set(0, 3, 1), Check.PLACE);
        c.due("set(0, -1, 1)", x.set(0, -1, 1), Check.PLACE);
        c.due("set(3, 0, 1)", x.set(3, 0, 1), Check.PLACE);
        c.due("set(0, most, 1)", x.set(0, Integer.MAX_VALUE, 1), Check.PLACE);
        c.due("set(4, 0, 1)", x.set(4, 0, 1), Check.NULL);
        c.due("set(4, -1, 1)", x.set(4, -1, 1), Check.NULL);
        c.due("set(8, 0, 1)", x.set(8, 0, 1), Check.BAD);
        c.due("set(-1, 0, 1)", x.set(-1, 0, 1), Check.BAD);
    }

    private static void drops() {
        c.part("promise 5");
        RabbitList x = new RabbitList();
        x.row(6, 1, 9);
        x.row(7, 1, 0);
        c.due("drop(6)", x.drop(6), 9);
        c.due("drop(7)", x.drop(7), 0);
        c.due("count(0)", x.count(0), 0);
        c.due("drop(6), again", x.drop(6), Check.NULL);
        c.due("set(6, 0, 1)", x.set(6, 0, 1), Check.NULL);
        c.due("drop(8)", x.drop(8), Check.BAD);
        c.due("drop(-1)", x.drop(-1), Check.BAD);
    }

    private static void refusesToCopy() {
        c.part("promise 4");
        RabbitList x = new RabbitList();
        x.row(0, 0, 3);
        x.row(1, 1, 3);
        x.row(2, 0, 5);
        c.due("copy(8, ..)", x.copy(8, 0, 0, 0, 0), Check.BAD);
        c.due("copy(.., -1, ..)", x.copy(0, 0, -1, 0, 0), Check.BAD);
        c.due("copy(7, 0, 8, 0, 0)", x.copy(7, 0, 8, 0, 0), Check.BAD);
        c.due("copy(7, 0, 0, 0, 0)", x.copy(7, 0, 0, 0, 0), Check.NULL);
        c.due("copy(0, 0, 7, 0, -1)", x.copy(0, 0, 7, 0, -1), Check.NULL);
        c.due("copy(0, 9, 1, 0, 0)", x.copy(0, 9, 1, 0, 0), Check.STORE);
        c.due("copy(1, 0, 2, 0, 0)", x.copy(1, 0, 2, 0, 0), Check.STORE);
        c.due("copy, i below 0", x.copy(0, -1, 2, 0, 1), Check.PLACE);
        c.due("copy, j below 0", x.copy(0, 0, 2, -1, 1), Check.PLACE);
        c.due("copy, n below 0", x.copy(0, 1, 2, 1, -1), Check.PLACE);
        c.due("copy beyond the end of a", x.copy(0, 1, 2, 0, 3), Check.PLACE);
        c.due("copy beyond the end of b", x.copy(2, 0, 0, 1, 3), Check.PLACE);
        c.due("copy of none beyond an end", x.copy(0, 4, 2, 0, 0), Check.PLACE);
        c.due("copy of none, b", x.copy(0, 3, 2, 6, 0), Check.PLACE);
        c.due("copy, the most of i and n", x.copy(0, Integer.MAX_VALUE, 2, 0, Integer.MAX_VALUE), Check.PLACE);
        c.due("copy, the most of n", x.copy(0, 1, 2, 0, Integer.MAX_VALUE), Check.PLACE);
        c.due("copy of none at the ends", x.copy(0, 3, 2, 5, 0), 0);
        c.due("copy of all", x.copy(0, 0, 2, 2, 3), 3);
    }

    private static void copies() {
        c.part("promise 4, what comes");
        RabbitList x = Check.told("r0,0;p0,1,5;z0,9;");
        c.due("taps(1)", x.taps(1), 5);
        Check.fill(x, 0, 2, 5, 5, 0, 0);
        c.due("copy onto itself, up", x.copy(0, 0, 0, 1, 3), 3);
        fives(x, 0, "1110");
        Check.fill(x, 0, 2, 0, 5, 0, 5);
        c.due("copy onto itself, down", x.copy(0, 1, 0, 0, 3), 3);
        fives(x, 0, "1011");
        Check.fill(x, 1, 2, 5, 5, 5);
        c.due("copy to another", x.copy(0, 1, 1, 1, 1), 1);
        fives(x, 1, "101");
        fives(x, 0, "1011");
        c.due("copy that is refused", x.copy(0, 0, 1, 1, 3), Check.PLACE);
        fives(x, 1, "101");
    }

    private static void fives(RabbitList x, int row, String want) {
        for (int i = 0; i < want.length(); i++) {
            c.due("item " + i + " of row " + row + " is five", x.wasOff(row, i, 1) >= 64 ? 1 : 0, want.charAt(i) - '0');
        }
    }

    private static void tellsStatus() {
        c.part("promise 41");
        RabbitList x = new RabbitList();
        c.due("status() at first", x.status(), 0);
        x.drop(0);
        c.due("status() NULL", x.status(), 1);
        x.row(0, 0, 2);
        c.due("status() none", x.status(), 0);
        x.set(0, 2, 0);
        c.due("status() PLACE", x.status(), 2);
        x.row(9, 0, 0);
        x.set(9, 0, 0);
        x.copy(0, 0, 9, 0, 0);
        x.drop(9);
        x.wasOff(0, 0, 1);
        x.who(0, 0, 0, 0, 1);
        x.as(0, 0);
        x.feed(256);
        x.count(0);
        c.due("status() behind what was refused", x.status(), 2);
        x.row(0, 0, -5);
        c.due("status() SIZE", x.status(), 4);
        x.row(1, 1, 2);
        x.copy(0, 0, 1, 0, 1);
        c.due("status() STORE", x.status(), 5);
        Check.tell(x, "r0,0;p0,1,5;z0,1;");
        x.as(0, 4);
        c.due("status() KIND", x.status(), 3);
        x.as(0, 6);
        x.kind(0);
        x.taps(1);
        x.wanted(0, 0, 0, 0, 1);
        c.due("status() behind STATE", x.status(), 3);
        x.as(0, 1);
        c.due("status() of as()", x.status(), 0);
        x.wasOff(0, 2, 1);
        c.due("status() of wasOff()", x.status(), 2);
        x.copy(0, 0, 0, 1, 1);
        c.due("status() of copy()", x.status(), 0);
        x.who(0, 0, 5, 0, 1);
        c.due("status() of who()", x.status(), 1);
        x.drop(1);
        c.due("status() of drop()", x.status(), 0);
    }
}
