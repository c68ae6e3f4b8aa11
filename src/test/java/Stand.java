/** Objects in states of which much can be said. */
final class Stand {
    private static final String SHOW = "r20,2;p1,4,3;b2,9,5;f1,2,2;l3,7,6;h2,5,9;z1,5;z2,3;z1,4;z3,9;z2,6;";

    private Stand() {
    }

    static RabbitList empty() {
        return new RabbitList();
    }

    /**
     * TAP 4, CLAPPED 19, 8 ACTS. Of THINGS 0 plain, 1 big, 2 flags, 3 live, 4 held THE LIST has 0, 4. SEAT 0 is LEFT,
     * 1 and 3 are PLEASED, 2 (LABEL 1, PATIENCE 2) and 4 (LABEL 2, PATIENCE 4) WAIT. IMAGE 0 is kept, of TAP 0.
     * ROWS 0 bytes (22, 19, 22), 1 shorts (22, 1), 2 ints (none), 3 ints (40); 4 to 7 are missing. FAULT 2.
     * 6 BODIES in THE TRACE. On the tape is "r1,". status() is 1.
     */
    static RabbitList busy() {
        RabbitList x = acted();
        Check.feed(x, "r1,");
        return x;
    }

    /** As busy(), but with an empty tape. */
    static RabbitList acted() {
        RabbitList x = Check.told(SHOW);
        Check.tell(x, "r61");
        x.image(0);
        x.taps(2);
        x.off(2);
        x.front(4);
        x.back(0);
        x.taps(1);
        x.sit(0, 5, 1);
        x.taps(1);
        Check.fill(x, 0, 0, 22, 19, 22);
        Check.fill(x, 1, 1, 22, 1);
        x.row(2, 2, 0);
        x.row(3, 2, 40);
        x.ask(1, 0);
        x.set(7, 0, 0);
        return x;
    }

    /** As busy(), with 120 bytes on the tape. */
    static RabbitList fullTape() {
        RabbitList x = acted();
        Check.feed(x, Check.repeat("r", 120));
        return x;
    }

    /** At TAP 984, one held THING, nobody in a SEAT. */
    static RabbitList late() {
        RabbitList x = Check.told("r0,0;h0,1,0;");
        for (int i = 0; i < 41; i++) {
            x.taps(24);
        }
        return x;
    }

    /** At TAP 999. */
    static RabbitList latest() {
        RabbitList x = late();
        x.taps(15);
        return x;
    }

    /** A SHOW in which they CLAPPED 5, and will go on to have CLAPPED 5: an ITEM is 5 if wasOff(row, i, 1) is 64. */
    static RabbitList fives() {
        RabbitList x = Check.told("r0,0;p0,1,5;z0,9;");
        x.taps(1);
        return x;
    }

    /**
     * Nothing but a live THING 1 comes, to nobody's joy, until SEATS 0 and 1 leave behind n - 1 TAPS; in TAP n THING 2
     * pleases SEAT 2, and they CLAPPED 5. The held THING 0 is off THE LIST. n is 2 to 68.
     */
    static RabbitList pleasedIn(int n) {
        int rounds = n < 21 ? 0 : (n - 13) / 8;
        int last = n - 8 * rounds;
        RabbitList x = Check.told("r0,9;h2,1,0;l2,1,0;p1,1,5;z2," + (last - 1) + ";z2," + (last - 1) + ";z1," + last + ";");
        x.off(1);
        for (int i = 0; i < rounds; i++) {
            x.taps(1);
        }
        x.off(0);
        x.back(1);
        return x;
    }
}
