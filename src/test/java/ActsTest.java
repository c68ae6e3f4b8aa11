/** Promises 9 to 18. */
public final class ActsTest {
    private static final Check c = new Check();

    public static void main(String[] args) {
        handsUpByKind();
        handsUpLiveOnes();
        handsUpHeldOnes();
        choosesAndWaits();
        refusesTaps();
        movesThings();
        takesSeatsAnew();
        tellsThingsSeatsAndList();
        undoes();
        c.end();
    }

    private static void stands(RabbitList x, int waits, int pleased, int left, int clapped) {
        c.due("stand(0)", x.stand(0), waits);
        c.due("stand(1)", x.stand(1), pleased);
        c.due("stand(2)", x.stand(2), left);
        c.due("stand(3)", x.stand(3), clapped);
    }

    private static void lists(RabbitList x, int... want) {
        c.due("count(4)", x.count(4), want.length);
        for (int i = 0; i < want.length; i++) {
            c.due("list(" + i + ")", x.list(i), want[i]);
        }
        c.due("list(" + want.length + ")", x.list(want.length), Check.NONE);
    }

    private static void handsUpByKind() {
        c.part("promise 10, a plain one");
        RabbitList x = Check.told("r0,0;p1,1,3;z2,5;z1,5;z1,5;");
        c.due("taps(1)", x.taps(1), 3);
        stands(x, 5, 2, 0, 3);
        c.due("seat(0, 1)", x.seat(0, 1), 4);
        c.due("seat(1, 1)", x.seat(1, 1), 5);
        c.due("seat(2, 1)", x.seat(2, 1), 4);
        lists(x);
        c.part("promise 10, a big one");
        x = Check.told("r0,0;b1,1,3;z2,5;z1,5;z1,5;");
        c.due("taps(1)", x.taps(1), 6);
        stands(x, 5, 2, 0, 6);
        c.part("promise 10, flags");
        x = Check.told("r0,0;f1,1,3;z1,5;z2,5;z1,5;z1,1;");
        c.due("taps(1)", x.taps(1), 9);
        stands(x, 2, 13, 0, 9);
        c.due("seat(3, 1)", x.seat(3, 1), 1);
        c.part("promise 10, nobody wants it");
        x = Check.told("r0,0;p1,1,3;b1,1,3;f1,1,3;z2,9;");
        c.due("taps(3)", x.taps(3), 0);
        lists(x);
        stands(x, 1, 0, 0, 0);
    }

    private static void handsUpLiveOnes() {
        c.part("promise 10, a live one, nobody pleased yet");
        RabbitList x = Check.told("r0,0;l1,1,7;p1,1,3;z1,5;z1,5;");
        c.due("taps(1)", x.taps(1), 0);
        lists(x, 1, 0);
        stands(x, 3, 0, 0, 0);
        c.due("taps(1)", x.taps(1), 3);
        c.due("taps(1)", x.taps(1), 10);
        lists(x);
        stands(x, 0, 3, 0, 10);
        c.part("promise 10, a live one, one pleased in a seat of a higher number");
        x = Check.told("r0,0;p2,1,3;l1,1,7;z1,9;z2,9;");
        c.due("taps(2)", x.taps(2), 10);
        stands(x, 0, 3, 0, 10);
        c.part("promise 10, a live one, nobody wants it");
        x = Check.told("r0,0;p2,1,3;l1,1,7;z2,9;");
        c.due("taps(2)", x.taps(2), 3);
        lists(x);
        c.part("promise 10, a live one, the pleased one's seat taken anew");
        x = Check.told("r0,0;p2,1,3;l1,1,7;z2,9;");
        x.taps(1);
        c.due("sit(0, 1, 5)", x.sit(0, 1, 5), 1);
        c.due("taps(1)", x.taps(1), 3);
        lists(x, 1);
        c.part("promise 10, a live one, one who left is not pleased");
        x = Check.told("r0,0;l1,1,7;z2,1;z1,9;");
        c.due("taps(3)", x.taps(3), 0);
        stands(x, 2, 0, 1, 0);
        lists(x, 0);
    }

    private static void handsUpHeldOnes() {
        c.part("promise 10, one that is held");
        RabbitList x = Check.told("r0,4;h1,1,9;p1,1,2;z1,3;z2,1;");
        c.due("taps(1)", x.taps(1), 0);
        lists(x, 1, 0);
        c.due("seat(0, 1)", x.seat(0, 1), 6);
        c.due("seat(1, 1)", x.seat(1, 1), 4);
        c.due("taps(2)", x.taps(2), 2);
        lists(x, 0);
        c.due("seat(0, 1), pleased", x.seat(0, 1), 6);
        c.due("seat(1, 1)", x.seat(1, 1), 6);
        c.part("promise 10, 99 at most");
        x = Check.told("r0,9;h0,1,0;z1,20;");
        x.taps(9);
        c.due("seat(0, 1)", x.seat(0, 1), 92);
        x.taps(1);
        c.due("seat(0, 1)", x.seat(0, 1), 98);
        x.taps(20);
        c.due("seat(0, 1)", x.seat(0, 1), 98);
        c.part("promise 10, none more");
        x = Check.told("r0,0;h0,1,0;z1,2;");
        x.taps(2);
        stands(x, 0, 0, 1, 0);
        c.due("seat(0, 1)", x.seat(0, 1), 0);
    }

    private static void choosesAndWaits() {
        c.part("promise 10, which comes");
        RabbitList x = Check.told("r0,0;p3,1,1;p1,1,2;p2,1,4;p2,1,8;z1,9;z2,9;z2,9;");
        c.due("taps(1), most want it", x.taps(1), 4);
        lists(x, 0, 1, 3);
        c.due("taps(1), the first of several", x.taps(1), 6);
        c.due("taps(1)", x.taps(1), 14);
        lists(x, 0);
        c.due("taps(1), nobody wants any", x.taps(1), 14);
        lists(x);
        c.due("taps(1), empty", x.taps(1), 14);
        c.due("count(3)", x.count(3), 5);
        c.part("promise 10, nobody wants any: the first");
        x = Check.told("r0,0;p3,1,1;p1,1,2;z7,9;");
        x.front(1);
        x.taps(1);
        lists(x, 0);
        c.part("promise 10, who leaves");
        x = Check.told("r0,0;p1,1,5;z2,1;z2,2;z1,1;");
        x.taps(1);
        stands(x, 2, 4, 1, 5);
        x.taps(1);
        stands(x, 0, 4, 3, 5);
        c.due("seat(2, 1)", x.seat(2, 1), 1);
        c.due("seat(0, 2)", x.seat(0, 2), 2);
        c.due("seat(2, 2)", x.seat(2, 2), 1);
        c.part("promise 10, one who left is not counted");
        x = Check.told("r0,0;p1,1,1;p2,1,2;z2,1;z2,1;z1,9;z2,9;");
        x.taps(1);
        c.due("thing(1, 4)", x.thing(1, 4), 1);
        stands(x, 12, 1, 2, 2);
    }

    private static void refusesTaps() {
        c.part("promise 10, refusals");
        RabbitList x = new RabbitList();
        c.due("taps(0), no show", x.taps(0), Check.STATE);
        Check.tell(x, "r0,0;p0,1,0;");
        c.due("taps(0)", x.taps(0), Check.BAD);
        c.due("taps(25)", x.taps(25), Check.BAD);
        c.due("taps(-1)", x.taps(-1), Check.BAD);
        c.due("taps(most)", x.taps(Integer.MAX_VALUE), Check.BAD);
        for (int i = 0; i < 41; i++) {
            x.taps(24);
        }
        c.due("count(3)", x.count(3), 984);
        c.due("taps(16)", x.taps(16), Check.FULL);
        c.due("taps(25)", x.taps(25), Check.BAD);
        c.due("count(3)", x.count(3), 984);
        c.due("taps(15)", x.taps(15), 0);
        c.due("taps(1)", x.taps(1), Check.FULL);
        c.due("count(3)", x.count(3), 999);
        c.due("ahead(60, 3)", x.ahead(60, 3), 0);
        x.undo();
        c.due("taps(1)", x.taps(1), 0);
    }

    private static void movesThings() {
        RabbitList x = Check.told("r0,0;p0,1,0;p0,1,0;p0,1,0;p0,1,0;");
        c.part("promise 11");
        c.due("front(2)", x.front(2), 2);
        lists(x, 2, 0, 1, 3);
        c.due("front(2), first already", x.front(2), 0);
        lists(x, 2, 0, 1, 3);
        c.due("count(6)", x.count(6), 2);
        c.due("front(3)", x.front(3), 3);
        lists(x, 3, 2, 0, 1);
        c.due("front(4)", x.front(4), Check.BAD);
        c.due("front(-1)", x.front(-1), Check.BAD);
        c.part("promise 12");
        c.due("off(2)", x.off(2), 1);
        lists(x, 3, 0, 1);
        c.due("off(2), again", x.off(2), Check.STATE);
        c.due("front(2), off", x.front(2), Check.STATE);
        c.due("off(4)", x.off(4), Check.BAD);
        c.due("off(-1)", x.off(-1), Check.BAD);
        c.due("off(3)", x.off(3), 0);
        c.part("promise 13");
        c.due("back(0), on it", x.back(0), Check.STATE);
        c.due("back(3)", x.back(3), 3);
        lists(x, 0, 1, 3);
        c.due("back(2)", x.back(2), 4);
        lists(x, 0, 1, 3, 2);
        c.due("back(4)", x.back(4), Check.BAD);
        c.due("back(-1)", x.back(-1), Check.BAD);
        c.due("count(6)", x.count(6), 7);
        x.taps(1);
        c.due("back(0), handed up", x.back(0), 4);
        lists(x, 1, 3, 2, 0);
    }

    private static void takesSeatsAnew() {
        c.part("promise 14");
        RabbitList x = Check.told("r0,0;p0,1,5;z0,9;z1,1;z2,9;");
        c.due("sit(0, 0, 1), one waits", x.sit(0, 0, 1), Check.STATE);
        c.due("sit(3, 0, 1)", x.sit(3, 0, 1), Check.BAD);
        c.due("sit(-1, 0, 1)", x.sit(-1, 0, 1), Check.BAD);
        c.due("sit(0, 10, 1)", x.sit(0, 10, 1), Check.BAD);
        c.due("sit(0, -1, 1)", x.sit(0, -1, 1), Check.BAD);
        c.due("sit(0, 0, 0)", x.sit(0, 0, 0), Check.BAD);
        c.due("sit(0, 0, 21)", x.sit(0, 0, 21), Check.BAD);
        x.taps(1);
        stands(x, 4, 1, 2, 5);
        c.due("sit(1, 9, 20)", x.sit(1, 9, 20), 6);
        c.due("sit(0, 0, 1)", x.sit(0, 0, 1), 7);
        c.due("seat(0, 1)", x.seat(0, 1), 1);
        c.due("seat(1, 0)", x.seat(1, 0), 9);
        c.due("seat(1, 1)", x.seat(1, 1), 20);
        stands(x, 7, 0, 0, 5);
        c.due("count(6)", x.count(6), 3);
        x.undo();
        stands(x, 6, 1, 0, 5);
        c.due("seat(0, 1)", x.seat(0, 1), 9);
    }

    private static void tellsThingsSeatsAndList() {
        c.part("promise 15");
        RabbitList x = Check.told("r0,0;p7,11,5;b8,12,6;z8,9;z8,2;z7,3;");
        c.due("thing(0, 0)", x.thing(0, 0), 7);
        c.due("thing(0, 1)", x.thing(0, 1), 11);
        c.due("thing(0, 2)", x.thing(0, 2), 5);
        c.due("thing(1, 3)", x.thing(1, 3), 1);
        c.due("thing(1, 4)", x.thing(1, 4), 2);
        x.taps(1);
        c.due("thing(1, 3)", x.thing(1, 3), Check.NONE);
        c.due("thing(1, 4)", x.thing(1, 4), 1);
        c.due("thing(0, 3)", x.thing(0, 3), 0);
        c.due("thing(0, 5)", x.thing(0, 5), Check.BAD);
        c.due("thing(0, -1)", x.thing(0, -1), Check.BAD);
        c.due("thing(2, 0)", x.thing(2, 0), Check.BAD);
        c.due("thing(-1, 0)", x.thing(-1, 0), Check.BAD);
        c.part("promise 16");
        c.due("seat(2, 0)", x.seat(2, 0), 7);
        c.due("seat(2, 1)", x.seat(2, 1), 2);
        c.due("seat(2, 2)", x.seat(2, 2), 0);
        c.due("seat(0, 2)", x.seat(0, 2), 1);
        c.due("seat(0, 3)", x.seat(0, 3), Check.BAD);
        c.due("seat(0, -1)", x.seat(0, -1), Check.BAD);
        c.due("seat(3, 0)", x.seat(3, 0), Check.BAD);
        c.due("seat(-1, 0)", x.seat(-1, 0), Check.BAD);
        c.part("promise 17");
        c.due("list(0)", x.list(0), 0);
        c.due("list(1)", x.list(1), Check.NONE);
        c.due("list(most)", x.list(Integer.MAX_VALUE), Check.NONE);
        c.due("list(-1)", x.list(-1), Check.BAD);
        c.due("list(-1), no show", new RabbitList().list(-1), Check.STATE);
        c.part("promise 18");
        c.due("stand(4)", x.stand(4), Check.BAD);
        c.due("stand(-1)", x.stand(-1), Check.BAD);
        c.due("stand(4), no show", new RabbitList().stand(4), Check.STATE);
    }

    private static void undoes() {
        c.part("promise 9");
        RabbitList x = Check.told("r0,3;h0,1,0;p1,1,4;z1,9;z0,2;");
        c.due("undo()", x.undo(), Check.STATE);
        x.taps(2);
        c.due("count(6), each tap an act", x.count(6), 2);
        x.front(0);
        x.off(0);
        x.back(1);
        x.sit(0, 5, 5);
        c.due("undo() of sit", x.undo(), 5);
        c.due("seat(0, 0)", x.seat(0, 0), 1);
        c.due("undo() of back", x.undo(), 4);
        lists(x);
        c.due("undo() of off", x.undo(), 3);
        lists(x, 0);
        c.due("undo() of front", x.undo(), 2);
        c.due("undo() of a tap", x.undo(), 1);
        stands(x, 3, 0, 0, 0);
        c.due("count(3)", x.count(3), 1);
        c.due("seat(0, 1)", x.seat(0, 1), 11);
        lists(x, 1, 0);
        c.due("undo() of a tap", x.undo(), 0);
        c.due("seat(0, 1)", x.seat(0, 1), 9);
        c.due("seat(1, 1)", x.seat(1, 1), 2);
        c.due("count(3)", x.count(3), 0);
        lists(x, 0, 1);
        c.due("undo()", x.undo(), Check.STATE);
        c.part("promise 9, refused ones are no acts");
        x.front(7);
        x.back(0);
        x.sit(0, 0, 1);
        x.taps(0);
        c.due("count(6)", x.count(6), 0);
        c.part("promise 9, 24 at most");
        x.taps(24);
        c.due("count(6)", x.count(6), 24);
        x.taps(3);
        c.due("count(6)", x.count(6), 24);
        for (int left = 23; left >= 0; left--) {
            c.due("undo()", x.undo(), left);
        }
        c.due("count(3)", x.count(3), 3);
        c.due("undo()", x.undo(), Check.STATE);
        c.due("taps(1)", x.taps(1), 4);
        c.due("undo()", x.undo(), 0);
        c.due("undo(), no show", new RabbitList().undo(), Check.STATE);
    }
}
