/** What "Terms" tells of NEXT to LACK, and promises 19 to 28. */
final class EdgesOfForetold {
    private static final String TERMS = Document.TERMS;
    private static final String NO_SHOW = "BAD; STATE: no SHOW (ahead of BAD).";
    private final Edge e;

    private EdgesOfForetold(Edge e) {
        this.e = e;
    }

    static void hold(Edge e) {
        EdgesOfForetold edges = new EdgesOfForetold(e);
        edges.nothingChanges();
        edges.next();
        edges.ahead();
        edges.when();
        edges.comes();
        edges.orders();
        edges.firstOfOrders();
        edges.packs();
        edges.matches();
        edges.clears();
        edges.clearsInThirty();
        edges.brings();
        edges.lacks();
    }

    private void nothingChanges() {
        e.sentence(TERMS, "FORETOLD (nothing changes).");
        e.leavesAll(Stand::busy, Check.NONE, "next(0)", "next(1)", "next(2)", "ahead(60, 0)", "ahead(60, 3)", "when(2, 1)",
            "when(4, 2)", "comes(0)", "comes(1)", "order(-1)", "order(-2)", "order(0)", "pack(0)", "pack(1)", "match()",
            "clear(2, 30, 0)", "clear(4, 30, 1)", "bring(30, 0)", "bring(30, 1)", "lack()");
        e.leavesAll(Stand::busy, Check.NONE, "wander(20, 30, 5, 0)", "wander(20, 30, 5, 1)", "drawn(60, 7, 0)", "drawn(60, 7, 1)");
        e.leavesAll(Stand::busy, 0, "who(0, 0, 0, 0, 3)", "who(0, 1, 0, 0, 3)", "who(0, 2, 0, 0, 3)", "who(1, 0, 3, 0, 12)");
        e.leavesAll(Stand::busy, 0, "wanted(2, 0, 0, 0, 3)", "wanted(4, 1, 0, 0, 3)", "wasOff(0, 0, 3)");
    }

    private void next() {
        e.sentence(TERMS, "NEXT: which THING comes; who is PLEASED by it (bits); how much they CLAP.");
        RabbitList x = Check.told("r0,0;f1,1,9;b2,1,9;h3,1,9;" + Check.repeat("z1,1;", 6));
        e.due(x, "next(0)", 0);
        e.due(x, "next(1)", 63);
        e.due(x, "next(2)", 54);
        x.taps(1);
        e.due(x, "next(0)", 1);
        e.each(x, 0, "next(1)", "next(2)");
        x = Check.told("r0,0;l1,1,9;b1,1,9;z1,9;z1,9;");
        e.due(x, "next(0)", 0);
        e.each(x, 0, "next(1)", "next(2)");
        x.taps(1);
        e.due(x, "next(0)", 1);
        e.due(x, "next(1)", 1);
        e.due(x, "next(2)", 18);
        x.taps(1);
        e.due(x, "next(1)", 2);
        e.due(x, "next(2)", 9);

        String place = Document.promise(19);
        e.sentence(place, "NEXT: which (what = 0; NONE: nothing), who (1), how much (2).");
        x.taps(1);
        e.due(x, "next(0)", Check.NONE);
        e.each(x, 0, "next(1)", "next(2)");
        e.sentence(place, NO_SHOW);
        e.refuses(Stand::busy, Check.BAD, "next(-1)", "next(3)", "next(MIN)", "next(MAX)");
        e.refuses(Stand::empty, Check.STATE, "next(0)", "next(-1)", "next(3)");
    }

    private void ahead() {
        e.sentence(TERMS, "AHEAD by n TAPS (0 to 60): who is PLEASED, LEFT, WAITS (bits of SEATS); CLAPPED.");
        RabbitList x = Stand.pleasedIn(60);
        e.due(x, "ahead(0, 0)", 7);
        e.due(x, "ahead(58, 0)", 7);
        e.due(x, "ahead(59, 0)", 4);
        e.due(x, "ahead(59, 1)", 0);
        e.due(x, "ahead(59, 2)", 3);
        e.due(x, "ahead(59, 3)", 0);
        e.due(x, "ahead(60, 0)", 0);
        e.due(x, "ahead(60, 1)", 4);
        e.due(x, "ahead(60, 2)", 3);
        e.due(x, "ahead(60, 3)", 5);
        e.due(x, "ahead(61, 3)", Check.BAD);
        x = Stand.pleasedIn(61);
        e.due(x, "ahead(60, 0)", 4);
        e.due(x, "ahead(60, 1)", 0);
        e.due(x, "ahead(60, 3)", 0);

        String place = Document.promise(20);
        e.sentence(place, "AHEAD: what = 0 WAITS, 1 PLEASED, 2 LEFT, 3 CLAPPED.");
        x = Stand.busy();
        e.due(x, "ahead(0, 0)", 20);
        e.due(x, "ahead(0, 1)", 10);
        e.due(x, "ahead(0, 2)", 1);
        e.due(x, "ahead(0, 3)", 19);
        e.due(x, "ahead(1, 0)", 16);
        e.due(x, "ahead(1, 1)", 14);
        e.due(x, "ahead(1, 2)", 1);
        e.due(x, "ahead(1, 3)", 22);
        e.sentence(place, NO_SHOW);
        e.refuses(Stand::busy, Check.BAD, "ahead(-1, 0)", "ahead(61, 0)", "ahead(MIN, 0)", "ahead(MAX, 0)");
        e.refuses(Stand::busy, Check.BAD, "ahead(0, -1)", "ahead(0, 4)", "ahead(0, MIN)", "ahead(0, MAX)");
        e.refuses(Stand::empty, Check.STATE, "ahead(0, 0)", "ahead(-1, 0)", "ahead(61, 0)", "ahead(0, 4)");
    }

    private void when() {
        e.sentence(TERMS, "WHEN a SEAT is PLEASED, is LEFT: behind how many TAPS (0: it is; 60 at most); NONE.");
        RabbitList x = Stand.pleasedIn(60);
        e.due(x, "when(2, 1)", 60);
        e.due(x, "when(0, 2)", 59);
        e.due(x, "when(2, 2)", Check.NONE);
        e.due(x, "when(0, 1)", Check.NONE);
        x = Stand.pleasedIn(61);
        e.due(x, "when(2, 1)", Check.NONE);
        e.due(x, "when(0, 2)", 60);
        x = Stand.pleasedIn(62);
        e.due(x, "when(0, 2)", Check.NONE);
        x.taps(1);
        e.due(x, "when(0, 2)", 60);
        x.taps(1);
        e.due(x, "when(2, 1)", 60);

        String place = Document.promise(21);
        e.sentence(place, "WHEN PLEASED (how = 1), LEFT (2); NONE.");
        x = Stand.busy();
        e.due(x, "when(1, 1)", 0);
        e.due(x, "when(1, 2)", Check.NONE);
        e.due(x, "when(0, 2)", 0);
        e.due(x, "when(0, 1)", Check.NONE);
        e.due(x, "when(2, 1)", 1);
        e.due(x, "when(2, 2)", Check.NONE);
        e.sentence(place, "BAD.");
        e.refuses(Stand::busy, Check.BAD, "when(-1, 1)", "when(5, 1)", "when(MIN, 1)", "when(MAX, 1)");
        e.refuses(Stand::busy, Check.BAD, "when(0, 0)", "when(0, 3)", "when(0, MIN)", "when(0, MAX)");
        e.refuses(Stand::empty, Check.BAD, "when(0, 1)");
    }

    private void comes() {
        e.sentence(TERMS, "COMES: in which TAP (1 on; 60 at most) a THING is handed up first; NONE.");
        RabbitList x = Stand.pleasedIn(60);
        e.due(x, "comes(1)", 1);
        e.due(x, "comes(2)", 60);
        x = Stand.pleasedIn(61);
        e.due(x, "comes(2)", Check.NONE);
        x.taps(1);
        e.due(x, "comes(2)", 60);
        e.due(x, "comes(1)", 1);

        String place = Document.promise(22);
        e.sentence(place, "COMES; NONE.");
        e.due(x, "comes(0)", Check.NONE);
        x = Check.told("r0,0;" + Check.repeat("p0,1,0;", 6));
        for (int t = 0; t < 6; t++) {
            e.due(x, "comes(" + t + ")", t + 1);
        }
        x.taps(6);
        e.each(x, Check.NONE, "comes(0)", "comes(5)");
        e.sentence(place, "BAD.");
        e.refuses(Stand::busy, Check.BAD, "comes(-1)", "comes(5)", "comes(MIN)", "comes(MAX)");
        e.refuses(Stand::empty, Check.BAD, "comes(0)");
    }

    private void ordered(RabbitList x, int clapped, int pleased, int... things) {
        e.due(x, "order(-1)", clapped);
        e.due(x, "order(-2)", pleased);
        for (int k = 0; k < things.length; k++) {
            e.due(x, "order(" + k + ")", things[k]);
        }
        e.due(x, "order(" + things.length + ")", Check.NONE);
    }

    private void orders() {
        e.sentence(TERMS, "ORDER: of all orders of THE LIST, its THINGS handed up in that order, one by one");
        // The last THING must come first: its one leaves behind the first TAP; the others follow by PATIENCE.
        RabbitList x = Check.told("r0,0;p1,1,1;p2,1,1;p3,1,1;p4,1,1;p5,1,1;p6,1,1;z1,6;z2,5;z3,4;z4,3;z5,2;z6,1;");
        ordered(x, 6, 63, 5, 4, 3, 2, 1, 0);
        x.taps(1);
        ordered(x, 5, 31, 4, 3, 2, 1, 5);
        ordered(Check.told("r0,0;p1,1,7;z1,1;"), 7, 1, 0);

        e.sentence(TERMS, "(none chosen; what is behind all again comes no more; else as told),");
        // Chosen, THING 1 would come first: most WANT it; handed up so, one leaves.
        x = Check.told("r0,0;p1,1,9;p2,1,1;z2,9;z2,9;z1,1;");
        e.due(x, "next(0)", 1);
        ordered(x, 10, 5, 0, 1);
        ordered(Check.told("r0,0;l1,1,9;z1,9;"), 0, 0, 0);
        ordered(Check.told("r0,0;l1,1,9;p1,1,1;z1,9;z1,9;"), 10, 3, 1, 0);
        // One that is held is handed up once: all have 9 more, and no more than that.
        ordered(Check.told("r0,9;p1,1,1;h2,1,9;p3,1,1;z3,1;z1,1;"), 2, 3, 1, 0, 2);
        ordered(Check.told("r0,1;p1,1,5;h3,1,0;p2,1,1;z2,1;z1,2;"), 6, 3, 1, 2, 0);
    }

    private void firstOfOrders() {
        e.sentence(TERMS, "that by which they CLAPPED most then, of several the first (by numbers): how much; who is PLEASED then (bits); the k-th THING.");
        RabbitList x = Check.told("r0,0;" + Check.repeat("p0,1,9;", 6));
        x.front(5);
        x.front(3);
        ordered(x, 0, 0, 0, 1, 2, 3, 4, 5);
        x = Check.told("r0,0;p1,1,3;p1,1,5;p1,1,5;z1,1;");
        x.front(2);
        ordered(x, 5, 1, 1, 0, 2);
        // What they CLAPPED ahead of it, and who was PLEASED, are in it.
        ordered(Stand.busy(), 22, 14, 0, 4);
        x = Check.told("r0,0;" + Check.repeat("f1,1,9;", 6) + Check.repeat("z1,1;", 6));
        ordered(x, 54, 63, 0, 1, 2, 3, 4, 5);

        String place = Document.promise(23);
        e.sentence(place, "ORDER: how much (k = -1), who (k = -2), the k-th (0 on; NONE: not so many).");
        x.taps(6);
        ordered(x, 54, 63);
        e.each(x, Check.NONE, "order(0)", "order(6)", "order(MAX)");
        e.sentence(place, "BAD: k below -2; STATE: no SHOW (ahead of BAD).");
        e.refuses(Stand::busy, Check.BAD, "order(-3)", "order(MIN)");
        e.refuses(Stand::empty, Check.STATE, "order(0)", "order(-1)", "order(-2)", "order(-3)", "order(MAX)");
    }

    private void packed(String text, int which, int joy) {
        RabbitList x = Check.told(text);
        e.due(x, "pack(0)", which);
        e.due(x, "pack(1)", joy);
    }

    private void packs() {
        e.sentence(TERMS, "PACK: of all sets of THINGS (on THE LIST or not) of which WEIGHTS together are ROOM at most, that of most JOY together,");
        packed("r0,0;p0,1,9;", 0, 0);
        packed("r1,0;p0,1,9;", 1, 9);
        packed("r19,0;p0,20,9;", 0, 0);
        packed("r20,0;p0,20,9;", 1, 9);
        packed("r60,0;" + Check.repeat("p0,10,9;", 6), 63, 54);
        packed("r59,0;" + Check.repeat("h0,10,9;", 6), 31, 45);
        packed("r9,0;p0,9,8;p0,4,4;p0,5,5;", 6, 9);
        RabbitList x = Check.told("r60,0;" + Check.repeat("l0,10,9;", 6));
        x.off(0);
        x.off(5);
        e.due(x, "pack(0)", 63);

        e.sentence(TERMS, "of several with fewest THINGS, of these the least: which (bits); JOY.");
        packed("r60,0;" + Check.repeat("p0,1,0;", 6), 0, 0);
        packed("r10,0;p0,5,3;p0,5,3;p0,10,6;", 4, 6);
        packed("r10,0;p0,5,3;p0,5,3;p0,5,3;p0,5,3;", 3, 6);
        packed("r5,0;p0,1,0;p0,5,3;p0,5,3;", 2, 3);

        String place = Document.promise(24);
        e.sentence(place, "PACK: which (what = 0), JOY (1).");
        e.due(Stand.busy(), "pack(0)", 29);
        e.due(Stand.busy(), "pack(1)", 20);
        e.sentence(place, NO_SHOW);
        e.refuses(Stand::busy, Check.BAD, "pack(-1)", "pack(2)", "pack(MIN)", "pack(MAX)");
        e.refuses(Stand::empty, Check.STATE, "pack(0)", "pack(1)", "pack(-1)", "pack(2)");
    }

    private void matched(String text, int want) {
        e.due("match() of " + text, Check.told(text).match(), want);
    }

    private void matches() {
        e.sentence(TERMS, "MATCH: how many of those who WAIT could be PLEASED by THE LIST, if none lost PATIENCE:");
        matched("r0,0;p1,1,0;", 0);
        matched("r0,0;p1,1,0;p2,1,0;z2,1;z1,1;", 2);
        matched("r0,0;" + Check.repeat("p1,1,0;", 6) + Check.repeat("z1,1;", 6), 6);
        RabbitList x = Check.told("r0,0;p1,1,0;p1,1,0;p1,1,0;z1,9;z1,1;z1,9;");
        e.due(x, "match()", 3);
        x.taps(1);
        e.due(x, "match()", 1);
        x.taps(2);
        e.due(x, "match()", 0);

        e.sentence(TERMS, "LABEL by LABEL all, if there are flags of it, else as many as there are THINGS (held ones aside), but no more than WANT it.");
        matched("r0,0;f1,1,0;" + Check.repeat("z1,1;", 6), 6);
        matched("r0,0;f1,1,0;f1,1,0;p1,1,0;z1,1;z2,1;", 1);
        matched("r0,0;f2,1,0;p1,1,0;z1,1;z1,1;", 1);
        matched("r0,0;h1,1,0;z1,1;", 0);
        matched("r0,0;h1,1,0;p1,1,0;z1,1;z1,1;", 1);
        matched("r0,0;l1,1,0;b1,1,0;z1,1;z1,1;z1,1;", 2);
        matched("r0,0;p1,1,0;p1,1,0;p1,1,0;z1,1;", 1);
        matched("r0,0;p0,1,0;p9,1,0;z0,1;z9,1;", 2);
        x = Check.told("r0,0;f1,1,0;p1,1,0;z1,9;z1,9;z1,9;");
        x.off(0);
        e.due(x, "match()", 1);
        x.off(1);
        e.due(x, "match()", 0);

        e.sentence(Document.promise(25), "MATCH. STATE: no SHOW.");
        e.due(Stand.busy(), "match()", 1);
        e.refuses(Stand::empty, Check.STATE, "match()");
    }

    private void clears() {
        e.sentence(TERMS, "the fewest THINGS of THE LIST to be taken off it now so that it is PLEASED behind them: how many; which (bits), of several the least; NONE.");
        RabbitList x = Check.told("r0,0;p1,1,0;p1,1,0;p2,1,0;z1,9;z1,9;z2,2;z3,9;");
        e.each(x, 0, "clear(0, 1, 0)", "clear(0, 1, 1)");
        e.due(x, "clear(2, 1, 0)", 2);
        e.due(x, "clear(2, 1, 1)", 3);
        e.due(x, "clear(2, 2, 0)", 1);
        e.due(x, "clear(2, 2, 1)", 1);
        e.each(x, Check.NONE, "clear(3, 30, 0)", "clear(3, 30, 1)");
        // All six but one, and the one that is off THE LIST is not to be taken off.
        x = Check.told("r0,0;p1,1,0;p1,1,0;p1,1,0;p1,1,0;p1,1,0;p2,1,0;z1,9;z2,1;");
        e.due(x, "clear(1, 1, 0)", 5);
        e.due(x, "clear(1, 1, 1)", 31);
        x.off(2);
        e.due(x, "clear(1, 1, 0)", 4);
        e.due(x, "clear(1, 1, 1)", 27);
        // Fewest ahead of least: THINGS 0 and 1 together are the lesser number.
        x = Check.told("r0,0;p1,1,0;p1,1,0;p2,1,0;p5,1,0;z1,9;z2,9;z5,2;");
        e.due(x, "clear(2, 2, 0)", 1);
        e.due(x, "clear(2, 2, 1)", 4);

        String place = Document.promise(26);
        e.sentence(place, "CLEAR: how many (what = 0), which (1); NONE.");
        x = Stand.busy();
        e.each(x, 0, "clear(1, 1, 0)", "clear(3, 30, 1)", "clear(2, 1, 0)");
        e.each(x, Check.NONE, "clear(0, 1, 0)", "clear(0, 30, 1)", "clear(4, 30, 0)");
        e.sentence(place, "BAD.");
        e.refuses(Stand::busy, Check.BAD, "clear(-1, 1, 0)", "clear(5, 1, 0)", "clear(MIN, 1, 0)", "clear(MAX, 1, 0)");
        e.refuses(Stand::busy, Check.BAD, "clear(2, 0, 0)", "clear(2, 31, 0)", "clear(2, -1, 0)", "clear(2, MIN, 0)", "clear(2, MAX, 0)");
        e.refuses(Stand::busy, Check.BAD, "clear(2, 1, -1)", "clear(2, 1, 2)", "clear(2, 1, MIN)", "clear(2, 1, MAX)");
        e.refuses(Stand::empty, Check.BAD, "clear(0, 1, 0)");
    }

    private void clearsInThirty() {
        e.sentence(TERMS, "CLEAR for a SEAT, n TAPS (1 to 30):");
        RabbitList x = Stand.pleasedIn(30);
        e.due(x, "clear(2, 30, 0)", 0);
        e.due(x, "clear(2, 29, 0)", 1);
        e.due(x, "clear(2, 29, 1)", 2);
        e.due(x, "clear(2, 1, 1)", 2);
        e.each(x, Check.BAD, "clear(2, 31, 0)", "clear(2, 0, 0)");
        x = Stand.pleasedIn(31);
        e.due(x, "clear(2, 30, 0)", 1);
        e.due(x, "clear(2, 30, 1)", 2);
    }

    private void brings() {
        e.sentence(TERMS, "BRING for n TAPS (1 to 30):");
        RabbitList x = Stand.pleasedIn(30);
        e.due(x, "bring(30, 0)", 1);
        e.due(x, "bring(30, 1)", 5);
        e.each(x, 0, "bring(29, 0)", "bring(29, 1)", "bring(1, 1)");
        e.each(x, Check.BAD, "bring(31, 0)", "bring(0, 0)");
        x = Stand.pleasedIn(31);
        e.each(x, 0, "bring(30, 0)", "bring(30, 1)");

        e.sentence(TERMS, "the THING that, put first on THE LIST now (brought back, too), lets them have CLAPPED most behind them, of several the first; how much.");
        x = Check.told("r0,0;p1,1,3;p1,1,5;b1,1,4;b1,1,4;z1,9;");
        e.due(x, "bring(1, 0)", 2);
        e.due(x, "bring(1, 1)", 8);
        x.front(3);
        e.due(x, "bring(1, 0)", 2);
        x.off(2);
        x.off(3);
        e.due(x, "bring(1, 0)", 2);
        e.due(x, "bring(1, 1)", 8);
        x.taps(1);
        e.due(x, "bring(30, 0)", 0);
        e.due(x, "bring(30, 1)", 3);
        x = Check.told("r0,0;p2,1,1;p2,1,1;p2,1,1;p2,1,1;p2,1,1;p1,1,1;z1,1;");
        e.due(x, "bring(1, 0)", 0);
        x.off(5);
        e.due(x, "bring(1, 0)", 5);
        e.due(x, "bring(1, 1)", 1);
        x = Check.told("r0,0;p2,1,1;");
        x.off(0);
        e.each(x, 0, "bring(1, 0)", "bring(1, 1)");

        String place = Document.promise(27);
        e.sentence(place, "BRING: which (what = 0), how much (1).");
        e.due(Stand.busy(), "bring(1, 0)", 1);
        e.due(Stand.busy(), "bring(1, 1)", 29);
        e.sentence(place, NO_SHOW);
        e.refuses(Stand::busy, Check.BAD, "bring(0, 0)", "bring(31, 0)", "bring(-1, 0)", "bring(MIN, 0)", "bring(MAX, 0)");
        e.refuses(Stand::busy, Check.BAD, "bring(1, -1)", "bring(1, 2)", "bring(1, MIN)", "bring(1, MAX)");
        e.refuses(Stand::empty, Check.STATE, "bring(1, 0)", "bring(0, 0)", "bring(31, 0)", "bring(1, 2)");
    }

    private void lacked(String text, int want) {
        e.due("lack() of " + text, Check.told(text).lack(), want);
    }

    private void lacks() {
        e.sentence(TERMS, "LACK: LABELS (bits) that those who WAIT WANT, of which no THING but held ones is on THE LIST.");
        lacked("r0,0;p0,1,0;", 0);
        lacked("r0,0;p1,1,0;z0,1;", 1);
        lacked("r0,0;p1,1,0;z9,1;z9,1;", 512);
        lacked("r0,0;p1,1,0;z1,1;", 0);
        lacked("r0,0;h1,1,0;z1,1;", 2);
        lacked("r0,0;h1,1,0;p1,1,0;z1,1;z1,1;", 0);
        lacked("r0,0;b1,1,0;f2,1,0;l3,1,0;z1,1;z2,1;z3,1;", 0);
        lacked("r0,0;p9,1,0;z0,1;z1,1;z2,1;z3,1;z4,1;z5,1;", 63);
        RabbitList x = Check.told("r0,0;p1,1,0;z1,1;z2,1;");
        e.due(x, "lack()", 4);
        x.off(0);
        e.due(x, "lack()", 6);
        x.taps(1);
        e.due(x, "lack()", 0);

        e.sentence(Document.promise(28), "LACK. STATE: no SHOW.");
        e.due(Stand.busy(), "lack()", 4);
        e.refuses(Stand::empty, Check.STATE, "lack()");
    }
}
