/** Promises 19 to 28. */
public final class ForetellTest {
    private static final Check c = new Check();

    public static void main(String[] args) {
        tellsNext();
        tellsAhead();
        tellsWhen();
        tellsWhatComes();
        findsTheBestOrder();
        packs();
        matchesAndLacks();
        clears();
        brings();
        c.end();
    }

    private static void tellsNext() {
        c.part("promise 19");
        RabbitList x = Check.told("r0,0;p1,1,3;f2,1,2;z2,5;z2,4;z1,9;");
        c.due("next(0)", x.next(0), 1);
        c.due("next(1)", x.next(1), 3);
        c.due("next(2)", x.next(2), 4);
        c.due("count(3), nothing changed", x.count(3), 0);
        c.due("count(6)", x.count(6), 0);
        x.taps(1);
        c.due("next(0)", x.next(0), 0);
        c.due("next(1)", x.next(1), 4);
        c.due("next(2), of this tap alone", x.next(2), 3);
        x.taps(1);
        c.due("next(0), empty", x.next(0), Check.NONE);
        c.due("next(1), empty", x.next(1), 0);
        c.due("next(2), empty", x.next(2), 0);
        c.due("next(3)", x.next(3), Check.BAD);
        c.due("next(-1)", x.next(-1), Check.BAD);
        c.due("next(3), no show", new RabbitList().next(3), Check.STATE);
        x = Check.told("r0,0;l1,1,7;b1,1,9;z1,5;");
        c.due("next(0), live", x.next(0), 0);
        c.due("next(1), live", x.next(1), 0);
        c.due("next(2), live", x.next(2), 0);
        x.front(1);
        c.due("next(2), big", x.next(2), 18);
    }

    private static void tellsAhead() {
        c.part("promise 20");
        RabbitList x = Check.told("r0,0;p1,1,3;f2,1,2;z2,5;z2,4;z1,9;z7,2;");
        c.due("ahead(0, 0)", x.ahead(0, 0), 15);
        c.due("ahead(0, 3)", x.ahead(0, 3), 0);
        c.due("ahead(1, 0)", x.ahead(1, 0), 12);
        c.due("ahead(1, 1)", x.ahead(1, 1), 3);
        c.due("ahead(1, 2)", x.ahead(1, 2), 0);
        c.due("ahead(1, 3)", x.ahead(1, 3), 4);
        c.due("ahead(2, 0)", x.ahead(2, 0), 0);
        c.due("ahead(2, 1)", x.ahead(2, 1), 7);
        c.due("ahead(2, 2)", x.ahead(2, 2), 8);
        c.due("ahead(60, 3)", x.ahead(60, 3), 7);
        x.taps(1);
        c.due("ahead(1, 3), all together", x.ahead(1, 3), 7);
        c.due("ahead(-1, 0)", x.ahead(-1, 0), Check.BAD);
        c.due("ahead(61, 0)", x.ahead(61, 0), Check.BAD);
        c.due("ahead(0, 4)", x.ahead(0, 4), Check.BAD);
        c.due("ahead(0, -1)", x.ahead(0, -1), Check.BAD);
        c.due("ahead(61, 0), no show", new RabbitList().ahead(61, 0), Check.STATE);
    }

    private static void tellsWhen() {
        c.part("promise 21");
        RabbitList x = Check.told("r0,0;p1,1,3;p2,1,2;z2,5;z1,1;z7,3;");
        c.due("when(1, 1)", x.when(1, 1), 1);
        c.due("when(0, 1)", x.when(0, 1), 2);
        c.due("when(2, 2)", x.when(2, 2), 3);
        c.due("when(2, 1)", x.when(2, 1), Check.NONE);
        c.due("when(0, 2)", x.when(0, 2), Check.NONE);
        x.taps(3);
        c.due("when(1, 1), it is", x.when(1, 1), 0);
        c.due("when(1, 2), it is the other", x.when(1, 2), Check.NONE);
        c.due("when(2, 2), it is", x.when(2, 2), 0);
        c.due("when(0, 0)", x.when(0, 0), Check.BAD);
        c.due("when(0, 3)", x.when(0, 3), Check.BAD);
        c.due("when(3, 1)", x.when(3, 1), Check.BAD);
        c.due("when(-1, 1)", x.when(-1, 1), Check.BAD);
        x = Check.told("r0,9;h0,1,0;z1,20;");
        x.taps(5);
        x.off(0);
        c.due("when(0, 2), 60 at most", x.when(0, 2), 60);
        x = Check.told("r0,9;h0,1,0;z1,13;");
        x.taps(6);
        x.off(0);
        c.due("when(0, 2), 61", x.when(0, 2), Check.NONE);
    }

    private static void tellsWhatComes() {
        c.part("promise 22");
        RabbitList x = Check.told("r0,0;p1,1,3;p2,1,2;p3,1,0;z2,5;");
        c.due("comes(1)", x.comes(1), 1);
        c.due("comes(0)", x.comes(0), 2);
        c.due("comes(2)", x.comes(2), 3);
        x.off(2);
        c.due("comes(2), off", x.comes(2), Check.NONE);
        x.taps(1);
        c.due("comes(1), came", x.comes(1), Check.NONE);
        c.due("comes(0)", x.comes(0), 1);
        c.due("comes(3)", x.comes(3), Check.BAD);
        c.due("comes(-1)", x.comes(-1), Check.BAD);
        x = Check.told("r0,9;h1,1,0;l1,1,0;p2,1,0;z1,20;");
        x.off(1);
        x.taps(5);
        x.off(0);
        x.back(1);
        c.due("comes(2), 61", x.comes(2), Check.NONE);
        x.taps(1);
        c.due("comes(2), 60 at most", x.comes(2), 60);
    }

    private static void orders(RabbitList x, int clapped, int pleased, int... things) {
        c.due("order(-1)", x.order(-1), clapped);
        c.due("order(-2)", x.order(-2), pleased);
        for (int k = 0; k < things.length; k++) {
            c.due("order(" + k + ")", x.order(k), things[k]);
        }
        c.due("order(" + things.length + ")", x.order(things.length), Check.NONE);
    }

    private static void findsTheBestOrder() {
        c.part("promise 23");
        RabbitList x = Check.told("r0,0;p1,1,3;p1,1,5;z1,1;z1,9;");
        orders(x, 8, 3, 0, 1);
        x.front(1);
        orders(x, 8, 3, 0, 1);
        x.off(0);
        orders(x, 5, 1, 1);
        c.due("count(4), nothing changed", x.count(4), 1);
        c.due("order(-3)", x.order(-3), Check.BAD);
        c.due("order(most)", x.order(Integer.MAX_VALUE), Check.NONE);
        c.due("order(-3), no show", new RabbitList().order(-3), Check.STATE);
        x = Check.told("r0,0;f1,1,2;b1,1,9;z1,9;z1,9;");
        orders(x, 20, 3, 1, 0);
        x.taps(1);
        orders(x, 4, 3, 1);
        x.taps(1);
        orders(x, 4, 3);
        c.part("promise 23, a live one comes no more");
        orders(Check.told("r0,0;l1,1,9;p1,1,1;z1,9;z1,9;"), 10, 3, 1, 0);
        orders(Check.told("r0,0;l1,1,9;z1,9;"), 0, 0, 0);
        c.part("promise 23, patience");
        orders(Check.told("r0,1;p1,1,5;h3,1,0;p2,1,1;z2,1;z1,2;"), 6, 3, 1, 2, 0);
        orders(Check.told("r0,0;p1,1,5;p2,1,1;z2,1;z1,2;"), 6, 3, 1, 0);
    }

    private static void packs() {
        c.part("promise 24");
        RabbitList x = Check.told("r10,0;p0,6,5;p0,5,3;p0,5,3;p0,10,6;");
        c.due("pack(0), fewest", x.pack(0), 8);
        c.due("pack(1)", x.pack(1), 6);
        x.off(3);
        c.due("pack(0), on the list or not", x.pack(0), 8);
        c.due("pack(2)", x.pack(2), Check.BAD);
        c.due("pack(-1)", x.pack(-1), Check.BAD);
        c.due("pack(2), no show", new RabbitList().pack(2), Check.STATE);
        x = Check.told("r10,0;p0,5,3;p0,5,3;p0,5,3;");
        c.due("pack(0), the least", x.pack(0), 3);
        c.due("pack(1)", x.pack(1), 6);
        x = Check.told("r60,0;p0,1,0;h0,20,9;l0,20,9;f0,20,9;b0,1,1;");
        c.due("pack(0)", x.pack(0), 14);
        c.due("pack(1)", x.pack(1), 27);
        x = Check.told("r0,0;p0,1,9;");
        c.due("pack(0), no room", x.pack(0), 0);
        c.due("pack(1), no room", x.pack(1), 0);
    }

    private static void matchesAndLacks() {
        c.part("promise 25");
        RabbitList x = Check.told("r0,0;p1,1,0;l1,1,0;h1,1,0;f2,1,0;b3,1,0;p3,1,0;z1,9;z1,9;z1,9;z2,9;z2,9;z3,1;");
        c.due("match()", x.match(), 5);
        c.due("lack()", x.lack(), 0);
        x.off(3);
        c.due("match(), no flags", x.match(), 3);
        c.part("promise 28");
        c.due("lack()", x.lack(), 4);
        x.off(0);
        c.due("lack()", x.lack(), 4);
        x.off(1);
        c.due("lack(), but held ones", x.lack(), 6);
        c.due("match(), held ones aside", x.match(), 1);
        x.off(4);
        x.off(5);
        c.due("lack()", x.lack(), 14);
        x.taps(1);
        c.due("lack(), one has left", x.lack(), 6);
        c.due("match()", x.match(), 0);
        c.due("match(), no show", new RabbitList().match(), Check.STATE);
        c.due("lack(), no show", new RabbitList().lack(), Check.STATE);
        x = Check.told("r0,0;f9,1,0;p9,1,0;z9,9;z9,9;z9,9;z0,9;");
        c.due("match(), flags and others", x.match(), 3);
        c.due("lack()", x.lack(), 1);
        x = Check.told("r0,0;p0,1,0;h9,1,0;z9,9;z0,9;");
        c.due("match(), label 0", x.match(), 1);
        c.due("lack(), label 9", x.lack(), 512);
    }

    private static void clears() {
        c.part("promise 26");
        RabbitList x = Check.told("r0,0;p1,1,0;p1,1,0;p2,1,0;z1,9;z1,9;z2,2;z3,9;");
        c.due("clear(0, 1, 0)", x.clear(0, 1, 0), 0);
        c.due("clear(0, 1, 1)", x.clear(0, 1, 1), 0);
        c.due("clear(2, 2, 0)", x.clear(2, 2, 0), 1);
        c.due("clear(2, 2, 1), the least", x.clear(2, 2, 1), 1);
        c.due("clear(2, 1, 0)", x.clear(2, 1, 0), 2);
        c.due("clear(2, 1, 1)", x.clear(2, 1, 1), 3);
        c.due("clear(3, 30, 0)", x.clear(3, 30, 0), Check.NONE);
        c.due("clear(3, 30, 1)", x.clear(3, 30, 1), Check.NONE);
        x.off(0);
        c.due("clear(2, 1, 1), of the list", x.clear(2, 1, 1), 2);
        c.due("count(4), nothing changed", x.count(4), 2);
        x.taps(1);
        c.due("clear(0, 1, 0), it is", x.clear(0, 1, 0), 0);
        c.due("clear(4, 1, 0)", x.clear(4, 1, 0), Check.BAD);
        c.due("clear(-1, 1, 0)", x.clear(-1, 1, 0), Check.BAD);
        c.due("clear(0, 0, 0)", x.clear(0, 0, 0), Check.BAD);
        c.due("clear(0, 31, 0)", x.clear(0, 31, 0), Check.BAD);
        c.due("clear(0, 1, 2)", x.clear(0, 1, 2), Check.BAD);
        c.due("clear(0, 1, -1)", x.clear(0, 1, -1), Check.BAD);
        x = Check.told("r0,0;p1,1,0;z2,1;");
        x.taps(1);
        c.due("clear(0, 1, 0), it has left", x.clear(0, 1, 0), Check.NONE);
        c.part("promise 26, fewer ahead of less");
        // Things 0 and 1 together would do as well, and are the lesser number.
        x = Check.told("r0,0;p1,1,0;p1,1,0;p2,1,0;p5,1,0;z1,9;z2,9;z5,2;");
        c.due("clear(2, 2, 0)", x.clear(2, 2, 0), 1);
        c.due("clear(2, 2, 1)", x.clear(2, 2, 1), 4);
        c.due("clear(2, 3, 0), too late", x.clear(2, 3, 0), 1);
    }

    private static void brings() {
        c.part("promise 27");
        RabbitList x = Check.told("r0,0;p1,1,3;p1,1,5;b1,1,4;b1,1,4;z1,9;");
        c.due("bring(1, 0)", x.bring(1, 0), 2);
        c.due("bring(1, 1)", x.bring(1, 1), 8);
        x.front(3);
        c.due("bring(1, 0), the first", x.bring(1, 0), 2);
        x.off(2);
        x.off(3);
        c.due("bring(1, 0), brought back", x.bring(1, 0), 2);
        c.due("bring(1, 1)", x.bring(1, 1), 8);
        c.due("count(4), nothing changed", x.count(4), 2);
        x.taps(1);
        c.due("bring(30, 0), none helps", x.bring(30, 0), 0);
        c.due("bring(30, 1), all together", x.bring(30, 1), 3);
        c.due("bring(0, 0)", x.bring(0, 0), Check.BAD);
        c.due("bring(31, 0)", x.bring(31, 0), Check.BAD);
        c.due("bring(1, 2)", x.bring(1, 2), Check.BAD);
        c.due("bring(1, -1)", x.bring(1, -1), Check.BAD);
        c.due("bring(0, 0), no show", new RabbitList().bring(0, 0), Check.STATE);
        x = Check.told("r0,0;p1,1,3;l1,1,9;z1,3;z1,3;");
        c.due("bring(1, 0)", x.bring(1, 0), 0);
        c.due("bring(2, 1)", x.bring(2, 1), 12);
    }
}
