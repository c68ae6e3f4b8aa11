/** What "Terms" tells of KINDS and ASKS, and promises 34 to 40. */
final class EdgesOfAsked {
    private static final String TERMS = Document.TERMS;
    /** THINGS 0 plain, 1 big, 2 flags, 3 live, 4 held, 5 plain, of WEIGHTS 4 to 8 and 20; two WANT LABEL 1. */
    private static final String EACH_KIND = "r0,0;p1,4,0;b1,5,0;f1,6,0;l1,7,0;h1,8,0;p9,20,0;z1,9;z1,9;z2,9;";
    private final Edge e;

    private EdgesOfAsked(Edge e) {
        this.e = e;
    }

    static void hold(Edge e) {
        EdgesOfAsked edges = new EdgesOfAsked(e);
        edges.images();
        edges.imagesAreRefused();
        edges.restores();
        edges.kinds();
        edges.isAskedByKind();
        edges.sizes();
        edges.marks();
        edges.bodies();
        edges.tellsKind();
        edges.takesAs();
        edges.asks();
        edges.traces();
        edges.counts();
    }

    private void images() {
        e.sentence(Document.promise(34), "An IMAGE (0, 1) is kept of the SHOW: 1.");
        RabbitList x = Stand.acted();
        e.due(x, "image(1)", 1);
        e.due(x, "count(6)", 8);
        e.due(x, "count(3)", 4);
        x.taps(1);
        e.due(x, "restore(0)", 1);
        e.due(x, "count(3)", 0);
        e.due(x, "restore(1)", 1);
        e.due(x, "count(3)", 4);
        e.due(x, "image(0)", 1);
        x.taps(2);
        e.due(x, "restore(0)", 1);
        e.due(x, "count(3)", 4);
        x.taps(3);
        e.due(x, "image(0)", 1);
        e.due(x, "restore(1)", 1);
        e.due(x, "count(3)", 4);
        e.due(x, "restore(0)", 1);
        e.due(x, "count(3)", 7);
    }

    private void imagesAreRefused() {
        e.sentence(Document.promise(34), "BAD; STATE: no SHOW.");
        e.refuses(Stand::busy, Check.BAD, "image(-1)", "image(2)", "image(MIN)", "image(MAX)");
        e.refuses(Stand::empty, Check.BAD, "image(-1)", "image(2)");
        e.refuses(Stand::empty, Check.STATE, "image(0)", "image(1)");
    }

    private void restores() {
        String place = Document.promise(35);
        e.sentence(place, "The SHOW is as an IMAGE kept it (no ACT can be undone then): 1.");
        RabbitList x = Stand.acted();
        x.image(1);
        e.due("show()", Check.tell(x, "r9,0;p7,1,0;"), 1);
        x.taps(5);
        e.due(x, "restore(1)", 1);
        e.due(x, "count(1)", 5);
        e.due(x, "count(2)", 5);
        e.due(x, "count(3)", 4);
        e.due(x, "count(5)", 19);
        e.each(x, 0, "count(6)", "count(7)");
        e.due(x, "stand(0)", 20);
        e.due(x, "stand(1)", 10);
        e.due(x, "stand(2)", 1);
        e.due(x, "list(0)", 0);
        e.due(x, "list(1)", 4);
        e.due(x, "list(2)", Check.NONE);
        e.due(x, "seat(2, 1)", 2);
        e.due(x, "pack(0)", 29);
        e.due(x, "kind(4)", 5);
        e.due(x, "undo()", Check.STATE);
        // ROWS, status(), THE TRACE and the FAULT are no part of a SHOW.
        e.due(x, "count(0)", 4);
        e.due(x, "status()", 1);
        e.due(x, "fault()", 2);
        e.due(x, "trace(0)", 12);
        x.taps(24);
        e.due(x, "count(6)", 24);
        e.due(x, "restore(1)", 1);
        e.due(x, "count(3)", 4);
        e.due(x, "count(6)", 0);

        e.sentence(place, "BAD; STATE: none was kept.");
        e.refuses(Stand::busy, Check.BAD, "restore(-1)", "restore(2)", "restore(MIN)", "restore(MAX)");
        e.refuses(Stand::busy, Check.STATE, "restore(1)");
        e.refuses(Stand::empty, Check.STATE, "restore(0)", "restore(1)");
        e.refuses(Stand::empty, Check.BAD, "restore(-1)", "restore(2)");
        x = new RabbitList();
        e.due(x, "image(0)", Check.STATE);
        Check.tell(x, "r0,0;p0,1,0;");
        e.each(x, Check.STATE, "restore(0)", "restore(1)");
        e.due(x, "image(1)", 1);
        e.due(x, "restore(0)", Check.STATE);
        e.due(x, "restore(1)", 1);
    }

    private void kinds() {
        e.sentence(TERMS, "KINDS of THINGS: 0 THING; 1 PLAIN, a THING; 2 BIG, a PLAIN; 3 FLAGS, a PLAIN; 4 LIVE, a THING; 5 HELD, a LIVE.");
        RabbitList x = Check.told(EACH_KIND);
        String[] is = {"110000", "111000", "110100", "100010", "100011", "110000"};
        for (int t = 0; t < is.length; t++) {
            for (int kind = 0; kind < 6; kind++) {
                e.due(x, "as(" + t + ", " + kind + ")", is[t].charAt(kind) == '1' ? t : Check.KIND);
            }
        }
    }

    private void ask(RabbitList x, int thing, int what, int answer, int... bodies) {
        e.due(x, "ask(" + thing + ", " + what + ")", answer);
        for (int i = 0; i < bodies.length; i++) {
            e.due(x, "trace(" + i + ")", bodies[i]);
        }
        e.due(x, "trace(" + bodies.length + ")", Check.NONE);
    }

    private void isAskedByKind() {
        e.sentence(TERMS, "By this it is asked.");
        RabbitList x = Check.told(EACH_KIND);
        int[] first = {11, 12, 11, 13, 14, 11};
        int[] second = {21, 24, 22, 23, 23, 21};
        for (int t = 0; t < 6; t++) {
            x.ask(t, 0);
            e.due(x, "trace(0)", first[t]);
            x.ask(t, 1);
            e.due(x, "trace(0)", second[t]);
        }
    }

    private void sizes() {
        RabbitList x = Check.told(EACH_KIND);
        e.sentence(TERMS, "0 SIZE: 10 lent to all THINGS: WEIGHT. 11 of PLAINS: what 10 gives, and MARK.");
        ask(x, 0, 0, 4 + 2, 11, 10, 21, 20);
        ask(x, 5, 0, 20 + 5, 11, 10, 21, 20);
        ask(x, 2, 0, 6 + 4 - 1000, 11, 10, 22, 21, 20);
        e.sentence(TERMS, "12 of BIG ones: 0 less what 11 gives.");
        ask(x, 1, 0, -(5 + 6), 12, 11, 10, 24, 21, 20);
        e.sentence(TERMS, "13 of LIVE ones: what 10 gives, less 100.");
        ask(x, 3, 0, 7 - 100, 13, 10);
        ask(Check.told("r0,0;l0,1,0;"), 0, 0, -99, 13, 10);
        ask(Check.told("r0,0;l0,20,0;"), 0, 0, -80, 13, 10);
        e.sentence(TERMS, "14 of HELD ones: what 13 gives, twice.");
        ask(x, 4, 0, 2 * (8 - 100), 14, 13, 10);
    }

    private void marks() {
        RabbitList x = Check.told(EACH_KIND);
        e.sentence(TERMS, "1 MARK: 20 lent to all THINGS: the number. 21 of PLAINS: what 20 gives, and how many who WAIT WANT it.");
        ask(x, 0, 1, 2, 21, 20);
        ask(x, 5, 1, 5, 21, 20);
        e.sentence(TERMS, "22 of FLAGS: what 21 gives, less 1000.");
        ask(x, 2, 1, 2 + 2 - 1000, 22, 21, 20);
        e.sentence(TERMS, "23 of LIVE ones: what 20 gives, less SIZE.");
        ask(x, 3, 1, 3 + 93, 23, 20, 13, 10);
        ask(x, 4, 1, 4 + 184, 23, 20, 14, 13, 10);
        e.sentence(TERMS, "24 of BIG ones: what 21 gives, twice.");
        ask(x, 1, 1, 2 * (1 + 2), 24, 21, 20);
        // Those who WAIT, none and all six.
        x.taps(1);
        ask(x, 1, 1, 2 * (1 + 1), 24, 21, 20);
        ask(Check.told("r0,0;p0,1,0;"), 0, 1, 0, 21, 20);
        ask(Check.told("r0,0;p0,1,0;" + Check.repeat("z0,1;", 6)), 0, 1, 6, 21, 20);
    }

    private void bodies() {
        e.sentence(TERMS, "ASKS of THINGS, by BODIES, each of which leaves its number in THE TRACE as it begins (the first 16):");
        RabbitList x = Check.told(EACH_KIND);
        for (int i = 0; i < 20; i++) {
            x.ask(1, 0);
        }
        // No ask has more than these six: THE TRACE is empty ahead of each.
        ask(x, 1, 0, -11, 12, 11, 10, 24, 21, 20);
        e.each(x, Check.NONE, "trace(15)", "trace(16)");

        e.sentence(TERMS, "(Of an ask the BODY told for the KIND begins, else that of the nearest KIND that it is, too, else the one that is lent; SIZE, MARK within others are asked of the same THING anew.)");
        // Told for the KIND; for the nearest one (SIZE of flags by 11, MARK of held ones by 23); MARK within 11 anew, SIZE within 23 anew.
        ask(x, 2, 0, -990, 11, 10, 22, 21, 20);
        ask(x, 4, 1, 188, 23, 20, 14, 13, 10);
        ask(x, 1, 0, -11, 12, 11, 10, 24, 21, 20);
        ask(x, 3, 1, 96, 23, 20, 13, 10);
    }

    private void tellsKind() {
        e.sentence(Document.promise(36), "The KIND of a THING, as told (1 to 5).");
        RabbitList x = Check.told(EACH_KIND);
        int[] kinds = {1, 2, 3, 4, 5, 1};
        for (int t = 0; t < 6; t++) {
            e.due(x, "kind(" + t + ")", kinds[t]);
        }
        x.off(4);
        e.due(x, "kind(4)", 5);
        e.sentence(Document.promise(36), "BAD.");
        e.each(x, Check.BAD, "kind(6)", "kind(-1)");
        e.refuses(Stand::busy, Check.BAD, "kind(-1)", "kind(5)", "kind(MIN)", "kind(MAX)");
        e.refuses(Stand::empty, Check.BAD, "kind(0)");
    }

    private void takesAs() {
        e.sentence(Document.promise(37), "A THING is taken as one of a KIND (0 .. 5): its number.");
        RabbitList x = Check.told(EACH_KIND);
        e.due(x, "as(4, 0)", 4);
        e.due(x, "as(4, 5)", 4);
        e.due(x, "as(5, 1)", 5);
        e.due(x, "as(0, 0)", 0);
        x.off(4);
        e.due(x, "as(4, 4)", 4);
        e.leavesAll(Stand::busy, 0, "as(4, 4)");
        e.sentence(Document.promise(37), "BAD; KIND: it is no such one.");
        e.refuses(Stand::busy, Check.BAD, "as(-1, 0)", "as(5, 0)", "as(MIN, 0)", "as(MAX, 0)");
        e.refuses(Stand::busy, Check.BAD, "as(0, -1)", "as(0, 6)", "as(0, MIN)", "as(0, MAX)", "as(5, 6)");
        e.refuses(Stand::busy, Check.KIND, "as(0, 2)", "as(0, 5)", "as(1, 3)", "as(3, 5)", "as(4, 1)", "as(2, 4)");
        e.refuses(Stand::empty, Check.BAD, "as(0, 0)");
    }

    private void asks() {
        e.sentence(Document.promise(38), "An ASK (0, 1) of a THING.");
        RabbitList x = Stand.busy();
        e.due(x, "ask(0, 0)", 5);
        e.due(x, "ask(0, 1)", 1);
        e.due(x, "ask(4, 0)", -190);
        e.due(x, "ask(1, 0)", -(9 + 4));
        e.sentence(Document.promise(38), "BAD.");
        e.refuses(Stand::busy, Check.BAD, "ask(-1, 0)", "ask(5, 0)", "ask(MIN, 0)", "ask(MAX, 0)");
        e.refuses(Stand::busy, Check.BAD, "ask(0, -1)", "ask(0, 2)", "ask(0, MIN)", "ask(0, MAX)");
        e.refuses(Stand::empty, Check.BAD, "ask(0, 0)", "ask(0, 1)");
        e.sentence(Document.promise(38), "THE TRACE is empty ahead of it.");
        x = Check.told(EACH_KIND);
        ask(x, 1, 0, -11, 12, 11, 10, 24, 21, 20);
        ask(x, 0, 1, 2, 21, 20);
        e.each(x, Check.NONE, "trace(2)", "trace(3)", "trace(4)", "trace(5)");
        // What is refused leaves it.
        e.each(x, Check.BAD, "ask(6, 0)", "ask(0, 2)");
        e.due(x, "trace(1)", 20);
    }

    private void traces() {
        e.sentence(Document.promise(39), "Number i of THE TRACE; NONE.");
        e.each(new RabbitList(), Check.NONE, "trace(0)", "trace(-1)", "trace(15)", "trace(16)", "trace(MIN)", "trace(MAX)");
        RabbitList x = Stand.busy();
        e.due(x, "trace(0)", 12);
        e.due(x, "trace(5)", 20);
        e.each(x, Check.NONE, "trace(6)", "trace(-1)", "trace(15)", "trace(16)", "trace(MIN)", "trace(MAX)");
    }

    private void counts() {
        e.sentence(Document.promise(40), "How many: 0 ROWS, 1 THINGS, 2 SEATS, 3 TAP, 4 how many are on THE LIST, 5 CLAPPED, 6 ACTS that can be undone, 7 bytes on the tape.");
        int[] busy = {4, 5, 5, 4, 2, 19, 8, 3};
        RabbitList x = Stand.busy();
        RabbitList none = new RabbitList();
        for (int what = 0; what < busy.length; what++) {
            e.due(x, "count(" + what + ")", busy[what]);
            e.due(none, "count(" + what + ")", 0);
        }
        e.due(Stand.fullTape(), "count(7)", 120);
        e.due(Stand.latest(), "count(3)", 999);
        e.due(Stand.latest(), "count(6)", 24);
        x = Check.told("r0,0;" + Check.repeat("p0,1,0;", 6) + Check.repeat("z0,1;", 6));
        for (int r = 0; r < 8; r++) {
            x.row(r, 0, 0);
        }
        e.due(x, "count(0)", 8);
        e.each(x, 6, "count(1)", "count(2)", "count(4)");
        e.sentence(Document.promise(40), "BAD.");
        e.refuses(Stand::busy, Check.BAD, "count(-1)", "count(8)", "count(MIN)", "count(MAX)");
        e.refuses(Stand::empty, Check.BAD, "count(-1)", "count(8)");
    }
}
