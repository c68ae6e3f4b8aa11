/** What "Terms" tells of rows that tell CLAPPED, of WANDER and RUNS, and promises 29 to 33. */
final class EdgesOfFits {
    private static final String TERMS = Document.TERMS;
    private static final int ALL_LABELS = 1023;
    private static final int ALL_KINDS = 62;
    private static final int ALL_PATIENCE = 2097150;
    private final Edge e;

    private EdgesOfFits(Edge e) {
        this.e = e;
    }

    static void hold(Edge e) {
        EdgesOfFits edges = new EdgesOfFits(e);
        edges.rowsTell();
        edges.kindsLabelsJoys();
        edges.wantedAndWaiting();
        edges.wasOff();
        edges.who();
        edges.whoIsRefused();
        edges.wanted();
        edges.wasOffIsRefused();
        edges.wander();
        edges.wanderOfMuch();
        edges.wanderIsRefused();
        edges.draws();
        edges.drawsSeats();
        edges.drawsThings();
        edges.drawsMost();
        edges.drawn();
    }

    private void rowsTell() {
        e.sentence(TERMS, "A row tells CLAPPED behind each of n TAPS (1 to 12) from now on.");
        // They CLAPPED 5 in TAP 12 and not ahead of it; ITEM 12 is beyond what is told.
        RabbitList x = Stand.pleasedIn(12);
        Check.fill(x, 0, 0, 0, 0, 0, 0, 0, 0, 0, 0, 0, 0, 0, 5, 77);
        e.due(x, "wasOff(0, 0, 12)", 64);
        e.due(x, "wasOff(0, 0, 11)", 64 + 4);
        e.due(x, "wasOff(0, 1, 12)", 0);
        e.due(x, "wasOff(0, 0, 1)", 64 + 4);
        e.due(x, "wasOff(0, 11, 1)", 2);
        e.each(x, Check.BAD, "wasOff(0, 0, 13)", "wasOff(0, 0, 0)");
        x.taps(11);
        e.due(x, "wasOff(0, 11, 1)", 64 + 2);
        x.taps(1);
        // From now on, with what was CLAPPED before.
        e.due(x, "wasOff(0, 11, 1)", 64 + 2);
        e.due(x, "wasOff(0, 0, 1)", 0);
    }

    private void kindsLabelsJoys() {
        e.sentence(TERMS, "KINDS (bits 1 to 5), LABELS (0 to 9, bits), JOYS (0 to 9, bits) of a THING by which it is so.");
        RabbitList x = Check.told("r0,0;p1,1,3;z1,9;z1,8;z2,1;z0,9;z9,9;");
        Check.fill(x, 0, 2, 0, 3, 6, 9);
        e.due(x, "who(0, 0, 0, 1, 1)", 2);
        e.due(x, "who(0, 0, 0, 2, 1)", 4 + 8);
        e.due(x, "who(0, 0, 0, 0, 1)", 16 + 32);
        e.due(x, "who(0, 0, 0, 3, 1)", 0);
        e.due(x, "who(0, 1, 0, 1, 1)", 1 + 2 + 4 + 512);
        e.due(x, "who(0, 1, 0, 0, 1)", ALL_LABELS - 1 - 2 - 4 - 512);
        e.due(x, "who(0, 2, 0, 0, 1)", 1);
        e.due(x, "who(0, 2, 0, 1, 1)", 8);
        e.due(x, "who(0, 2, 0, 3, 1)", 512);
        x.off(0);
        e.due(x, "who(0, 0, 0, 0, 1)", ALL_KINDS);
        e.due(x, "who(0, 1, 0, 0, 1)", ALL_LABELS);
        e.due(x, "who(0, 2, 0, 0, 1)", ALL_LABELS);
        e.due(x, "who(0, 0, 0, 1, 1)", 0);
    }

    private void wantedAndWaiting() {
        e.sentence(TERMS, "WANTED (LABELS, bits), WAITING (PATIENCE 1 to 20, bits) of a SEAT in which one WAITS by which it is so.");
        RabbitList x = Check.told("r0,0;p0,1,3;p9,1,4;z5,9;");
        Check.fill(x, 0, 0, 3, 3, 0, 4, 0, 0, 4);
        e.due(x, "wanted(0, 0, 0, 0, 2)", 1);
        e.due(x, "wanted(0, 0, 0, 3, 1)", 512);
        e.due(x, "wanted(0, 0, 0, 2, 1)", ALL_LABELS - 1 - 512);
        e.due(x, "wanted(0, 0, 0, 1, 2)", 0);
        e.due(x, "wanted(0, 1, 0, 2, 1)", ALL_PATIENCE);
        e.due(x, "wanted(0, 1, 0, 0, 1)", 0);
        // THING 2 comes in TAP 12, if SEATS 0 and 1 leave ahead of it; SEAT 2 must wait as long.
        x = Stand.pleasedIn(12);
        Check.fill(x, 0, 0, 0, 0, 0, 0, 0, 0, 0, 0, 0, 0, 0, 5);
        e.due(x, "wanted(2, 1, 0, 0, 12)", ALL_PATIENCE & -(1 << 12));
        e.due(x, "wanted(2, 1, 0, 0, 11)", ALL_PATIENCE);
        x.row(1, 0, 12);
        e.due(x, "wanted(2, 1, 1, 0, 12)", (1 << 12) - 2);
        // PATIENCE beyond 20 is not looked at, though it has more now.
        x = Stand.pleasedIn(60);
        x.row(1, 0, 12);
        e.due(x, "wanted(2, 1, 1, 0, 12)", ALL_PATIENCE);
    }

    private void wasOff() {
        e.sentence(TERMS, "OFF: such a row: THINGS (bits) of THE LIST, one of which, taken off it now, makes it so; 64 more, if it is so as it is.");
        RabbitList x = Check.told("r0,0;p1,1,3;p1,1,4;p2,1,5;z1,9;z2,9;");
        Check.fill(x, 0, 0, 3, 8, 4, 9, 3, 3);
        e.due(x, "wasOff(0, 0, 1)", 64 + 6);
        e.due(x, "wasOff(0, 0, 2)", 64 + 2);
        e.due(x, "wasOff(0, 2, 2)", 1);
        e.due(x, "wasOff(0, 4, 2)", 4);
        e.due(x, "wasOff(0, 1, 2)", 0);
        x.off(1);
        e.due(x, "wasOff(0, 0, 2)", 64);
        x = Check.told("r0,0;" + Check.repeat("p0,1,0;", 6));
        x.row(0, 2, 40);
        e.due(x, "wasOff(0, 28, 12)", 64 + 63);
        x.taps(6);
        e.due(x, "wasOff(0, 28, 12)", 64);
        e.due(x, "set(0, 28, -1)", -1);
        e.due(x, "wasOff(0, 28, 12)", 0);
    }

    private void who() {
        String place = Document.promise(29);
        e.sentence(place, "KINDS (which = 0), LABELS (1), JOYS (2) of a THING, n ITEMS of a ROW from i on.");
        RabbitList x = Check.told("r0,0;p1,1,3;z1,9;z1,8;z2,1;");
        x.row(3, 2, 40);
        x.set(3, 39, 3);
        e.due(x, "who(0, 0, 3, 39, 1)", 2);
        e.due(x, "who(0, 1, 3, 39, 1)", 6);
        e.due(x, "who(0, 2, 3, 39, 1)", 8);
        e.due(x, "who(0, 0, 3, 27, 12)", 48);
        e.due(x, "who(0, 0, 3, 28, 12)", 0);
        e.due(x, "who(0, 0, 3, 29, 12)", Check.PLACE);
        e.due(x, "who(0, 0, 3, 0, 12)", 48);
        // A number that is cut in its LANE counts as it is then.
        Check.fill(x, 0, 0, 259);
        e.due(x, "who(0, 0, 0, 0, 1)", 2);
        Check.fill(x, 0, 1, 259);
        e.due(x, "who(0, 0, 0, 0, 1)", 0);
    }

    private void whoIsRefused() {
        e.sentence(Document.promise(29), "BAD: THING, which, ROW, n; NULL; PLACE.");
        e.refuses(Stand::busy, Check.BAD, "who(-1, 0, 0, 0, 1)", "who(5, 0, 0, 0, 1)", "who(MIN, 0, 0, 0, 1)", "who(MAX, 0, 0, 0, 1)");
        e.refuses(Stand::busy, Check.BAD, "who(0, -1, 0, 0, 1)", "who(0, 3, 0, 0, 1)", "who(0, MIN, 0, 0, 1)", "who(0, MAX, 0, 0, 1)");
        e.refuses(Stand::busy, Check.BAD, "who(0, 0, -1, 0, 1)", "who(0, 0, 8, 0, 1)", "who(0, 0, MIN, 0, 1)", "who(0, 0, MAX, 0, 1)");
        e.refuses(Stand::busy, Check.BAD, "who(0, 0, 0, 0, 0)", "who(0, 0, 0, 0, -1)", "who(0, 0, 3, 0, 13)", "who(0, 0, 0, 0, MIN)", "who(0, 0, 3, 0, MAX)");
        e.refuses(Stand::busy, Check.NULL, "who(0, 0, 4, 0, 1)", "who(0, 0, 7, 0, 12)", "who(0, 0, 7, -1, 1)");
        e.refuses(Stand::busy, Check.PLACE, "who(0, 0, 0, -1, 1)", "who(0, 0, 0, 3, 1)", "who(0, 0, 0, 1, 3)", "who(0, 0, 2, 0, 1)");
        e.refuses(Stand::busy, Check.PLACE, "who(0, 0, 3, 29, 12)", "who(0, 0, 0, MIN, 12)", "who(0, 0, 0, MAX, 12)", "who(0, 0, 0, MAX, 1)");
        RabbitList x = Stand.busy();
        // As flags, or live, it would please the same one.
        e.each(x, 2 + 8 + 16, "who(0, 0, 0, 2, 1)", "who(0, 0, 0, 0, 1)");
        e.due(Stand.empty(), "who(0, 0, 0, 0, 1)", Check.BAD);
    }

    private void wanted() {
        String place = Document.promise(30);
        e.sentence(place, "WANTED (which = 0), WAITING (1) of a SEAT, n ITEMS of a ROW from i on.");
        RabbitList x = Stand.busy();
        e.due(x, "wanted(2, 0, 0, 0, 1)", 2);
        e.due(x, "wanted(2, 0, 0, 1, 1)", ALL_LABELS - 2);
        e.due(x, "wanted(2, 1, 0, 2, 1)", ALL_PATIENCE);
        e.due(x, "wanted(2, 1, 3, 39, 1)", 0);
        e.sentence(place, "BAD: SEAT, which, ROW, n; STATE: nobody WAITS there; NULL; PLACE.");
        e.refuses(Stand::busy, Check.BAD, "wanted(-1, 0, 0, 0, 1)", "wanted(5, 0, 0, 0, 1)", "wanted(MIN, 0, 0, 0, 1)", "wanted(MAX, 0, 0, 0, 1)");
        e.refuses(Stand::busy, Check.BAD, "wanted(2, -1, 0, 0, 1)", "wanted(2, 2, 0, 0, 1)", "wanted(2, MIN, 0, 0, 1)", "wanted(2, MAX, 0, 0, 1)");
        e.refuses(Stand::busy, Check.BAD, "wanted(2, 0, -1, 0, 1)", "wanted(2, 0, 8, 0, 1)", "wanted(2, 0, MIN, 0, 1)", "wanted(2, 0, MAX, 0, 1)");
        e.refuses(Stand::busy, Check.BAD, "wanted(2, 0, 0, 0, 0)", "wanted(2, 0, 3, 0, 13)", "wanted(2, 0, 0, 0, MIN)", "wanted(2, 0, 3, 0, MAX)");
        e.refuses(Stand::busy, Check.STATE, "wanted(0, 0, 0, 0, 1)", "wanted(1, 1, 0, 0, 1)", "wanted(3, 0, 7, 0, 1)", "wanted(3, 0, 0, 3, 1)");
        e.refuses(Stand::busy, Check.NULL, "wanted(2, 0, 4, 0, 1)", "wanted(4, 1, 7, 0, 12)", "wanted(4, 1, 7, -1, 12)");
        e.refuses(Stand::busy, Check.PLACE, "wanted(2, 0, 0, -1, 1)", "wanted(2, 0, 0, 3, 1)", "wanted(2, 0, 0, 1, 3)", "wanted(2, 1, 2, 0, 1)");
        e.refuses(Stand::busy, Check.PLACE, "wanted(2, 0, 3, 29, 12)", "wanted(2, 0, 0, MIN, 12)", "wanted(2, 0, 0, MAX, 12)");
        e.due(Stand.empty(), "wanted(0, 0, 0, 0, 1)", Check.BAD);
    }

    private void wasOffIsRefused() {
        String place = Document.promise(31);
        e.sentence(place, "OFF, n ITEMS of a ROW from i on.");
        RabbitList x = Stand.busy();
        e.due(x, "wasOff(0, 0, 1)", 64 + 16);
        e.due(x, "wasOff(0, 1, 1)", 1);
        e.due(x, "wasOff(0, 2, 1)", 64 + 16);
        e.due(x, "wasOff(0, 0, 3)", 0);
        e.due(x, "wasOff(3, 28, 12)", 0);
        e.sentence(place, "BAD: ROW, n; STATE: no SHOW (ahead of BAD); NULL; PLACE.");
        e.refuses(Stand::busy, Check.BAD, "wasOff(-1, 0, 1)", "wasOff(8, 0, 1)", "wasOff(MIN, 0, 1)", "wasOff(MAX, 0, 1)");
        e.refuses(Stand::busy, Check.BAD, "wasOff(0, 0, 0)", "wasOff(0, 0, -1)", "wasOff(3, 0, 13)", "wasOff(0, 0, MIN)", "wasOff(3, 0, MAX)");
        e.refuses(Stand::empty, Check.STATE, "wasOff(0, 0, 1)", "wasOff(-1, 0, 1)", "wasOff(8, 0, 1)", "wasOff(0, 0, 0)", "wasOff(0, 0, 13)");
        e.refuses(Stand::busy, Check.NULL, "wasOff(4, 0, 1)", "wasOff(7, 0, 12)", "wasOff(7, -1, 1)");
        e.refuses(Stand::busy, Check.PLACE, "wasOff(0, -1, 1)", "wasOff(0, 3, 1)", "wasOff(0, 1, 3)", "wasOff(2, 0, 1)", "wasOff(3, 29, 12)");
        e.refuses(Stand::busy, Check.PLACE, "wasOff(0, MIN, 12)", "wasOff(0, MAX, 12)", "wasOff(0, MAX, 1)");
    }

    private void likely(RabbitList x, String told, long above, long below) {
        e.due(x, "wander(" + told + ", 0)", above);
        e.due(x, "wander(" + told + ", 1)", below);
    }

    private void wander() {
        e.sentence(TERMS, "WANDER by p of 10 (0 to 10): each who WAITS is LEFT now in p of 10 cases, apart:");
        RabbitList x = Check.told("r0,0;p1,1,3;z1,9;z1,9;");
        likely(x, "3, 1, 0", 1, 1);
        likely(x, "3, 1, 1", 99, 100);
        likely(x, "3, 1, 9", 19, 100);
        likely(x, "3, 1, 10", 0, 1);
        e.each(x, Check.BAD, "wander(3, 1, -1, 0)", "wander(3, 1, 11, 0)");
        // Those who don't WAIT are as they are: one is PLEASED, and a live one may come.
        x = Check.told("r0,0;p1,1,3;l1,1,4;z1,9;z2,1;z1,9;");
        x.taps(1);
        likely(x, "7, 1, 3", 7, 10);
        likely(x, "3, 30, 3", 1, 1);
        likely(x, "8, 30, 3", 0, 1);
        // Who leaves changes what comes: with both gone who WANT LABEL 2, or one, THING 0 comes at once.
        x = Check.told("r0,0;p1,1,5;p2,1,1;z1,9;z2,9;z2,9;");
        likely(x, "5, 1, 5", 3, 8);

        e.sentence(TERMS, "behind n TAPS (0 to 30): a fraction.");
        x = Stand.pleasedIn(30);
        likely(x, "5, 30, 0", 1, 1);
        likely(x, "5, 29, 0", 0, 1);
        likely(x, "0, 0, 0", 1, 1);
        likely(x, "1, 0, 5", 0, 1);
        e.each(x, Check.BAD, "wander(0, 31, 0, 0)", "wander(0, -1, 0, 0)");
        likely(Stand.pleasedIn(31), "5, 30, 0", 0, 1);
        // One of SEATS 0 and 1 gone, and THING 2, that is first, comes at once: 3 of 4; SEAT 2 must stay: 1 of 2.
        likely(Stand.pleasedIn(31), "5, 30, 5", 3, 8);
    }

    /** They CLAPPED 54 in each of some rounds, all in their SEATS anew ahead of each. */
    private static RabbitList clapped54(int rounds) {
        RabbitList x = Check.told("r0,0;f1,1,9;" + Check.repeat("z1,1;", 6));
        x.taps(1);
        for (int round = 1; round < rounds; round++) {
            x.back(0);
            for (int s = 0; s < 6; s++) {
                x.sit(s, 1, 1);
            }
            x.taps(1);
        }
        return x;
    }

    private void wanderOfMuch() {
        e.sentence(TERMS, "how likely they CLAPPED k (0 to 999) or more");
        RabbitList x = clapped54(18);
        e.due(x, "count(5)", 972);
        likely(x, "972, 0, 5", 1, 1);
        likely(x, "973, 30, 5", 0, 1);
        x.back(0);
        x.sit(0, 1, 1);
        x.sit(3, 1, 1);
        x.sit(5, 1, 1);
        // All three must stay for 999.
        likely(x, "999, 1, 5", 1, 8);
        likely(x, "998, 1, 5", 1, 8);
        likely(x, "990, 1, 5", 1, 2);
        likely(x, "972, 1, 5", 1, 1);
        e.due(x, "taps(1)", 999);
        likely(x, "999, 0, 5", 1, 1);
        e.each(x, Check.BAD, "wander(1000, 0, 5, 0)", "wander(-1, 0, 5, 0)");
        likely(x, "0, 30, 10", 1, 1);
    }

    private void wanderIsRefused() {
        String place = Document.promise(32);
        e.sentence(place, "WANDER: above (what = 0), below (1).");
        likely(Stand.busy(), "22, 1, 3", 7, 10);
        likely(Stand.busy(), "19, 0, 3", 1, 1);
        likely(Stand.busy(), "23, 30, 3", 0, 1);
        e.sentence(place, "BAD; STATE: no SHOW (ahead of BAD).");
        e.refuses(Stand::busy, Check.BAD, "wander(-1, 0, 0, 0)", "wander(1000, 0, 0, 0)", "wander(MIN, 0, 0, 0)", "wander(MAX, 0, 0, 0)");
        e.refuses(Stand::busy, Check.BAD, "wander(0, -1, 0, 0)", "wander(0, 31, 0, 0)", "wander(0, MIN, 0, 0)", "wander(0, MAX, 0, 0)");
        e.refuses(Stand::busy, Check.BAD, "wander(0, 0, -1, 0)", "wander(0, 0, 11, 0)", "wander(0, 0, MIN, 0)", "wander(0, 0, MAX, 0)");
        e.refuses(Stand::busy, Check.BAD, "wander(0, 0, 0, -1)", "wander(0, 0, 0, 2)", "wander(0, 0, 0, MIN)", "wander(0, 0, 0, MAX)");
        e.refuses(Stand::empty, Check.STATE, "wander(0, 0, 0, 0)", "wander(999, 30, 10, 1)", "wander(-1, 0, 0, 0)", "wander(0, 0, 0, 2)");
    }

    private void run(RabbitList x, int n, int seed, int clapped, int often) {
        e.due(x, "drawn(" + n + ", " + seed + ", 0)", clapped);
        e.due(x, "drawn(" + n + ", " + seed + ", 1)", often);
    }

    // From 1 the draws are 16807, 282475249, 1622650073, 984943658, 1144108930, 470211272, 101027544.
    private void draws() {
        e.sentence(TERMS, "ahead of each X becomes the rest of (X times 16807) by 2147483647;");
        RabbitList x = Check.told("r0,0;p9,1,3;z9,1;");
        run(x, 1, 1, 3, 1);
        run(x, 2, 1, 6, 2);
        run(x, 3, 1, 6, 2);
        // X times 16807 would wrap around in an int from SEED 127774 on.
        for (int seed : new int[] {1, 2, 127773, 127774, 255547, 999998, 999999}) {
            long draw = (long) seed * 16807 % 2147483647L;
            RabbitList y = Check.told("r0,0;p" + draw % 10 + ",1,7;z0,1;");
            y.taps(1);
            int before = y.count(5);
            run(y, 1, seed, before + 7, 1);
        }
    }

    private void drawsSeats() {
        e.sentence(TERMS, "if there are SEATS, and nobody WAITS in the one that is the rest of X by how many there are, that is taken anew (LABEL the rest of X by 10, PATIENCE the rest of X by 5, and 1);");
        run(Check.told("r0,0;p9,1,2;"), 60, 999999, 0, 0);
        // The first draw from 1 is of SEAT 1 of six, LABEL 7, PATIENCE 3.
        RabbitList x = Check.told("r0,0;f7,1,2;" + Check.repeat("z5,1;", 6));
        x.off(0);
        x.taps(1);
        x.back(0);
        run(x, 1, 1, 2, 1);
        x = Check.told("r0,0;f7,1,2;z5,9;z5,9;z5,1;z5,1;z5,1;z5,1;");
        x.off(0);
        x.taps(1);
        x.back(0);
        run(x, 1, 1, 0, 0);
        x = Check.told("r0,0;f7,1,2;z5,9;z7,1;");
        run(x, 1, 1, 2, 1);
        // The second draw has LABEL 9, PATIENCE 5: none comes anew in draws 3 to 6, and the one of draw 7 has LABEL 4.
        x = Check.told("r0,0;p4,1,3;z4,1;");
        run(x, 6, 1, 3, 1);
        run(x, 7, 1, 6, 2);
    }

    private void drawsThings() {
        e.sentence(TERMS, "if THE LIST is empty, the THING that is the rest of X by how many there are is brought back;");
        // 16807 by 6 leaves 1, by 5 leaves 2, by 2 leaves 1.
        RabbitList x = Check.told("r0,0;p7,1,1;p7,1,2;p7,1,3;p7,1,4;p7,1,5;p7,1,6;z7,9;");
        for (int t = 0; t < 6; t++) {
            x.off(t);
        }
        run(x, 1, 1, 2, 1);
        x = Check.told("r0,0;p7,1,1;p7,1,2;p7,1,3;p7,1,4;p7,1,5;z7,9;");
        for (int t = 0; t < 5; t++) {
            x.off(t);
        }
        run(x, 1, 1, 3, 1);
        x = Check.told("r0,0;p7,1,3;p9,1,5;z9,9;");
        x.off(1);
        run(x, 1, 1, 0, 0);
        x.off(0);
        run(x, 1, 1, 5, 1);

        e.sentence(TERMS, "then the TAP: CLAPPED then; how often one became PLEASED.");
        x = Check.told("r0,0;f7,1,9;p7,1,2;" + Check.repeat("z7,9;", 6));
        run(x, 1, 1, 54, 6);
        run(Stand.busy(), 0, 1, 19, 0);
        // JOY 0: nobody claps, and yet one is PLEASED.
        run(Check.told("r0,0;p7,1,0;z7,9;"), 1, 1, 0, 1);
    }

    private void drawsMost() {
        e.sentence(TERMS, "RUNS of n TAPS (0 to 60) by a SEED (X at first):");
        for (int seed : new int[] {1, 16807, 999999}) {
            for (int n : new int[] {0, 1, 59, 60}) {
                RabbitList x = Check.told("r0,0;p4,1,3;z4,1;");
                int often = pleasedByDraws(n, seed);
                run(x, n, seed, 3 * often, often);
            }
        }
        RabbitList x = Check.told("r0,0;p4,1,3;z4,1;");
        e.each(x, Check.BAD, "drawn(61, 1, 0)", "drawn(-1, 1, 0)");
    }

    /** The run of one plain THING, brought back ahead of each TAP, and one SEAT, both of LABEL 4, PATIENCE 1 at first. */
    private static int pleasedByDraws(int n, int seed) {
        long x = seed;
        int label = 4;
        int patience = 1;
        int often = 0;
        for (int t = 0; t < n; t++) {
            x = x * 16807 % 2147483647L;
            if (patience == 0) {
                label = (int) (x % 10);
                patience = (int) (x % 5) + 1;
            }
            boolean pleased = label == 4;
            often += pleased ? 1 : 0;
            patience = pleased ? 0 : patience - 1;
        }
        return often;
    }

    private void drawn() {
        String place = Document.promise(33);
        e.sentence(place, "RUNS by a SEED (1 to 999999): CLAPPED (what = 0), how often (1).");
        RabbitList x = Check.told("r0,0;p4,1,3;z4,1;");
        run(x, 1, 1, 3, 1);
        run(x, 1, 999999, 3, 1);
        e.each(x, Check.BAD, "drawn(1, 0, 0)", "drawn(1, 1000000, 0)", "drawn(1, -1, 0)");
        e.sentence(place, "BAD; STATE: no SHOW (ahead of BAD).");
        e.refuses(Stand::busy, Check.BAD, "drawn(-1, 1, 0)", "drawn(61, 1, 0)", "drawn(MIN, 1, 0)", "drawn(MAX, 1, 0)");
        e.refuses(Stand::busy, Check.BAD, "drawn(0, 0, 0)", "drawn(0, 1000000, 0)", "drawn(0, MIN, 0)", "drawn(0, MAX, 0)");
        e.refuses(Stand::busy, Check.BAD, "drawn(0, 1, -1)", "drawn(0, 1, 2)", "drawn(0, 1, MIN)", "drawn(0, 1, MAX)");
        e.refuses(Stand::empty, Check.STATE, "drawn(0, 1, 0)", "drawn(60, 999999, 1)", "drawn(61, 1, 0)", "drawn(0, 0, 0)", "drawn(0, 1, 2)");
    }
}
