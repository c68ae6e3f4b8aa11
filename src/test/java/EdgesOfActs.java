/** What "Terms" tells of A TAP and of ACTS, and promises 9 to 18. */
final class EdgesOfActs {
    private static final String TERMS = Document.TERMS;
    private final Edge e;

    private EdgesOfActs(Edge e) {
        this.e = e;
    }

    static void hold(Edge e) {
        EdgesOfActs edges = new EdgesOfActs(e);
        edges.whichComes();
        edges.plainOnes();
        edges.bigOnesAndFlags();
        edges.liveOnes();
        edges.heldOnes();
        edges.mostPatience();
        edges.whoLeaves();
        edges.emptyList();
        edges.actsAreKept();
        edges.oldestIsForgotten();
        edges.eachActIsUndone();
        edges.undoes();
        edges.taps();
        edges.tapsAreFull();
        edges.movesThings();
        edges.sits();
        edges.tellsThings();
        edges.tellsSeats();
        edges.tellsTheList();
        edges.tellsHowItStands();
    }

    private void lists(RabbitList x, int... things) {
        for (int k = 0; k < things.length; k++) {
            e.due(x, "list(" + k + ")", things[k]);
        }
        e.due(x, "list(" + things.length + ")", Check.NONE);
        e.due(x, "count(4)", things.length);
    }

    private void stands(RabbitList x, int wait, int pleased, int left, int clapped) {
        e.due(x, "stand(0)", wait);
        e.due(x, "stand(1)", pleased);
        e.due(x, "stand(2)", left);
        e.due(x, "stand(3)", clapped);
    }

    private void whichComes() {
        e.sentence(TERMS, "A TAP: the rabbit hands up the THING of THE LIST of which LABEL most of those who WAIT WANT,");
        RabbitList x = Check.told("r0,0;p1,1,0;p2,1,0;p2,1,0;z2,9;z2,1;z1,9;");
        e.due(x, "next(0)", 1);
        x.taps(1);
        // One is PLEASED, one is LEFT: nobody WAITS for LABEL 2 any more.
        e.due(x, "next(0)", 0);
        x = Check.told("r0,0;p0,1,0;p1,1,0;p2,1,0;p3,1,0;p4,1,0;p9,1,0;z9,1;");
        e.due(x, "next(0)", 5);
        x.off(5);
        e.due(x, "next(0)", 0);

        e.sentence(TERMS, "of several the one that is first on it");
        x = Check.told("r0,0;p1,1,0;p2,1,0;p1,1,0;z1,9;z2,9;");
        e.due(x, "next(0)", 0);
        x.front(2);
        e.due(x, "next(0)", 2);
        x.front(1);
        e.due(x, "next(0)", 1);

        e.sentence(TERMS, "(also if nobody WANTS any);");
        x = Check.told("r0,0;p1,1,0;p2,1,0;z7,9;");
        e.due(x, "next(0)", 0);
        x.front(1);
        e.due(x, "next(0)", 1);
        e.due(Check.told("r0,0;p1,1,0;p2,1,0;"), "next(0)", 0);

        e.sentence(TERMS, "it is off THE LIST then.");
        x = Check.told("r0,0;p1,1,0;b1,1,0;f1,1,0;");
        x.taps(2);
        lists(x, 2);
        e.due(x, "thing(0, 3)", Check.NONE);
        e.due(x, "thing(2, 3)", 0);
        x.taps(1);
        lists(x);
    }

    private void plainOnes() {
        e.sentence(TERMS, "A plain one: the first one (by SEATS) who WAITS and WANTS it is PLEASED, and WAITS no more;");
        RabbitList x = Check.told("r0,0;p1,1,2;p1,1,2;p1,1,2;z2,9;z1,9;z1,9;z1,2;");
        x.taps(1);
        stands(x, 13, 2, 0, 2);
        x.taps(1);
        stands(x, 1, 6, 8, 4);
        x.taps(1);
        stands(x, 1, 6, 8, 4);
        x = Check.told("r0,0;p1,1,0;" + Check.repeat("z2,9;", 5) + "z1,1;");
        x.taps(1);
        stands(x, 31, 32, 0, 0);

        e.sentence(TERMS, "they CLAP by JOY, if there is one.");
        e.due(Check.told("r0,0;p1,1,0;z1,1;"), "taps(1)", 0);
        e.due(Check.told("r0,0;p1,1,9;z1,1;"), "taps(1)", 9);
        e.due(Check.told("r0,0;p1,1,9;z2,1;"), "taps(1)", 0);
        e.due(Check.told("r0,0;p1,1,9;"), "taps(1)", 0);
    }

    private void bigOnesAndFlags() {
        e.sentence(TERMS, "A big one so, but they CLAP by twice that.");
        RabbitList x = Check.told("r0,0;b1,1,9;z2,9;z1,9;z1,9;");
        e.due(x, "taps(1)", 18);
        stands(x, 5, 2, 0, 18);
        lists(x);
        e.due(Check.told("r0,0;b1,1,0;z1,1;"), "taps(1)", 0);
        e.due(Check.told("r0,0;b1,1,9;z2,1;"), "taps(1)", 0);

        e.sentence(TERMS, "Flags: all who WAIT and WANT them are PLEASED; they CLAP by JOY for each.");
        x = Check.told("r0,0;f1,1,9;" + Check.repeat("z1,1;", 6));
        e.due(x, "taps(1)", 54);
        stands(x, 0, 63, 0, 54);
        x = Check.told("r0,0;f1,1,9;z2,9;z1,1;z2,9;z1,9;");
        e.due(x, "taps(1)", 18);
        stands(x, 5, 10, 0, 18);
        lists(x);
        e.due(Check.told("r0,0;f1,1,9;z1,1;"), "taps(1)", 9);
        x = Check.told("r0,0;f1,1,9;z2,9;");
        e.due(x, "taps(1)", 0);
        lists(x);
        // Those who are PLEASED or LEFT get nothing more.
        x = Check.told("r0,0;p1,1,1;f1,1,2;z1,9;z1,1;z1,9;");
        e.due(x, "taps(2)", 3);
        stands(x, 0, 5, 2, 3);
    }

    private void liveOnes() {
        e.sentence(TERMS, "A live one as a plain one, but only if there is one PLEASED in some SEAT ahead of it;");
        RabbitList x = Check.told("r0,0;p2,1,1;l1,1,9;z1,9;z1,9;z2,9;");
        x.front(0);
        x.off(1);
        e.due(x, "taps(1)", 1);
        x.back(1);
        e.due(x, "taps(1)", 10);
        stands(x, 2, 5, 0, 10);
        lists(x);
        x = Check.told("r0,0;p2,1,1;l1,1,9;z2,9;z1,9;");
        e.due(x, "taps(2)", 10);
        x = Check.told("r0,0;p2,1,1;l1,1,9;z2,9;z3,9;");
        e.due(x, "taps(2)", 1);
        lists(x);

        e.sentence(TERMS, "else it is behind all on THE LIST again, and nobody gets it.");
        x = Check.told("r0,0;l1,1,9;p1,1,1;p3,1,1;z1,9;z1,9;");
        e.due(x, "taps(1)", 0);
        lists(x, 1, 2, 0);
        stands(x, 3, 0, 0, 0);
        x = Check.told("r0,0;l1,1,9;z1,3;z2,1;");
        // One who LEFT is not PLEASED, and one whose SEAT is taken anew is PLEASED no more.
        e.due(x, "taps(2)", 0);
        lists(x, 0);
        stands(x, 1, 0, 2, 0);
        x = Check.told("r0,0;p1,1,1;l1,1,9;z1,9;");
        x.taps(1);
        x.sit(0, 1, 9);
        e.due(x, "taps(1)", 1);
        lists(x, 1);
    }

    private void heldOnes() {
        e.sentence(TERMS, "One that is held: nobody gets it, it is behind all on THE LIST again;");
        RabbitList x = Check.told("r0,1;h1,1,9;p2,1,0;z1,1;z1,1;z2,1;");
        e.due(x, "taps(1)", 0);
        lists(x, 1, 0);
        stands(x, 7, 0, 0, 0);
        x = Check.told("r0,0;h1,1,9;");
        x.taps(24);
        lists(x, 0);

        e.sentence(TERMS, "all who WAIT have EXTRA more PATIENCE");
        x = Check.told("r0,9;p2,1,0;h1,1,9;z2,5;z1,1;z1,2;z3,1;");
        x.front(0);
        x.off(1);
        x.taps(1);
        x.back(1);
        // SEAT 0 is PLEASED, 1 and 3 are LEFT; 2 alone WAITS.
        stands(x, 4, 1, 10, 0);
        x.taps(1);
        e.due(x, "seat(0, 1)", 5);
        e.due(x, "seat(1, 1)", 0);
        e.due(x, "seat(2, 1)", 9);
        e.due(x, "seat(3, 1)", 0);
        x = Check.told("r0,0;h1,1,9;z1,1;z1,2;");
        x.taps(1);
        stands(x, 2, 0, 1, 0);
        x = Check.told("r0,9;h1,1,9;" + Check.repeat("z2,20;", 6));
        x.taps(1);
        stands(x, 63, 0, 0, 0);
        e.due(x, "seat(0, 1)", 28);
        e.due(x, "seat(5, 1)", 28);
        x = Check.told("r0,1;h1,1,9;z1,1;");
        x.taps(24);
        stands(x, 1, 0, 0, 0);
        e.due(x, "seat(0, 1)", 1);
    }

    private void mostPatience() {
        e.sentence(TERMS, "(99 at most).");
        RabbitList x = Check.told("r0,9;h0,1,0;z1,17;z1,18;z1,19;z1,20;");
        x.taps(9);
        e.due(x, "seat(0, 1)", 89);
        e.due(x, "seat(3, 1)", 92);
        x.taps(1);
        e.due(x, "seat(0, 1)", 97);
        e.due(x, "seat(1, 1)", 98);
        e.due(x, "seat(2, 1)", 98);
        e.due(x, "seat(3, 1)", 98);
        x.taps(24);
        e.due(x, "seat(0, 1)", 98);
        x.off(0);
        e.due(x, "ahead(60, 0)", 15);
        x.taps(24);
        x.taps(24);
        x.taps(24);
        e.due(x, "ahead(25, 0)", 15);
        e.due(x, "ahead(26, 0)", 0);
    }

    private void whoLeaves() {
        e.sentence(TERMS, "Then all who WAIT have PATIENCE 1 less; who has none is LEFT, and WAITS no more.");
        RabbitList x = Check.told("r0,0;p1,1,5;z2,1;z2,2;z1,1;z2,20;");
        x.taps(1);
        stands(x, 10, 4, 1, 5);
        e.due(x, "seat(0, 1)", 0);
        e.due(x, "seat(1, 1)", 1);
        e.due(x, "seat(2, 1)", 1);
        e.due(x, "seat(3, 1)", 19);
        x.taps(1);
        stands(x, 8, 4, 3, 5);
        x.taps(17);
        stands(x, 8, 4, 3, 5);
        x.taps(1);
        stands(x, 0, 4, 11, 5);
        e.due(x, "seat(3, 1)", 0);
        x.taps(1);
        e.due(x, "seat(3, 1)", 0);
        e.due(x, "seat(2, 1)", 1);

        e.sentence(TERMS, "TAP is 1 more.");
        e.due(x, "count(3)", 21);
        x.taps(1);
        e.due(x, "count(3)", 22);
    }

    private void emptyList() {
        e.sentence(TERMS, "(THE LIST may be empty: nothing is handed up.)");
        RabbitList x = Check.told("r0,9;p1,1,5;z1,2;z2,3;");
        x.off(0);
        e.due(x, "next(0)", Check.NONE);
        e.due(x, "taps(1)", 0);
        stands(x, 3, 0, 0, 0);
        e.due(x, "seat(0, 1)", 1);
        e.due(x, "count(3)", 1);
        e.due(x, "count(6)", 2);
        x.taps(2);
        stands(x, 0, 0, 3, 0);
        lists(x);

        e.sentence(TERMS, "CLAPPED is what they CLAPPED, all together.");
        x = Check.told("r0,0;p1,1,5;b1,1,4;f1,1,3;z1,9;z1,9;z1,9;z1,9;");
        e.due(x, "taps(1)", 5);
        e.due(x, "taps(1)", 13);
        e.due(x, "taps(1)", 19);
        e.due(x, "taps(1)", 19);
        e.due(x, "count(5)", 19);
        x.sit(0, 1, 9);
        x.back(1);
        e.due(x, "taps(1)", 27);
    }

    private void actsAreKept() {
        e.sentence(TERMS, "ACTS (24 at most are kept,");
        RabbitList x = Check.told("r0,0;h0,1,0;p0,1,0;");
        for (int act = 1; act <= 24; act++) {
            x.front(act % 2);
            e.due(x, "count(6)", act);
        }
        x.front(1);
        e.due(x, "count(6)", 24);
        x.taps(24);
        e.due(x, "count(6)", 24);
        for (int left = 23; left >= 0; left--) {
            e.due(x, "undo()", left);
        }
        e.due(x, "count(3)", 0);
        e.due(x, "undo()", Check.STATE);
    }

    private void oldestIsForgotten() {
        e.sentence(TERMS, "of more the oldest is forgotten;");
        RabbitList x = Check.told("r0,0;h0,1,0;p1,1,0;z5,20;");
        x.off(1);
        x.taps(23);
        e.due(x, "count(6)", 24);
        for (int i = 0; i < 24; i++) {
            x.undo();
        }
        e.due(x, "undo()", Check.STATE);
        lists(x, 0, 1);
        x.off(1);
        x.taps(24);
        e.due(x, "count(6)", 24);
        for (int i = 0; i < 24; i++) {
            x.undo();
        }
        e.due(x, "undo()", Check.STATE);
        lists(x, 0);
        e.due(x, "count(3)", 0);
        e.due(x, "seat(0, 1)", 20);
        // 24 and 24 and 2 more: the ring has gone round twice.
        x.taps(24);
        x.taps(24);
        x.taps(2);
        for (int i = 0; i < 24; i++) {
            x.undo();
        }
        e.due(x, "count(3)", 26);
        e.due(x, "undo()", Check.STATE);
    }

    private void eachActIsUndone() {
        e.sentence(TERMS, "each can be undone, the latest first): a TAP;");
        RabbitList x = Check.told("r0,0;h0,1,0;p1,1,4;z1,9;z0,2;z5,1;");
        x.taps(2);
        stands(x, 0, 1, 6, 4);
        lists(x, 0);
        e.due(x, "undo()", 1);
        stands(x, 3, 0, 4, 0);
        lists(x, 1, 0);
        e.due(x, "seat(0, 1)", 8);
        e.due(x, "count(3)", 1);
        e.due(x, "undo()", 0);
        stands(x, 7, 0, 0, 0);
        lists(x, 0, 1);
        e.due(x, "seat(2, 1)", 1);
        e.due(x, "count(3)", 0);

        e.sentence(TERMS, "a THING of THE LIST is put first on it; one is taken off it; one that is off it is brought back, behind all;");
        x = Check.told("r0,0;p0,1,0;p0,1,0;p0,1,0;");
        x.front(2);
        x.off(0);
        x.back(0);
        lists(x, 2, 1, 0);
        e.due(x, "undo()", 2);
        lists(x, 2, 1);
        e.due(x, "undo()", 1);
        lists(x, 2, 0, 1);
        e.due(x, "undo()", 0);
        lists(x, 0, 1, 2);

        e.sentence(TERMS, "a SEAT in which nobody WAITS is taken anew (LABEL, PATIENCE).");
        x = Check.told("r0,0;p0,1,3;z0,7;z1,1;");
        x.taps(1);
        x.sit(0, 4, 5);
        x.sit(1, 6, 8);
        stands(x, 3, 0, 0, 3);
        e.due(x, "undo()", 2);
        stands(x, 1, 0, 2, 3);
        e.due(x, "seat(1, 0)", 1);
        e.due(x, "seat(1, 1)", 0);
        e.due(x, "undo()", 1);
        stands(x, 0, 1, 2, 3);
        e.due(x, "seat(0, 0)", 0);
        e.due(x, "seat(0, 1)", 7);
    }

    private void undoes() {
        e.sentence(Document.promise(9), "The latest ACT is undone: how many can be undone yet.");
        RabbitList x = Stand.busy();
        for (int left = 7; left >= 0; left--) {
            e.due(x, "undo()", left);
        }
        e.due(x, "count(3)", 0);
        stands(x, 31, 0, 0, 0);
        lists(x, 0, 1, 2, 3, 4);
        // What is undone is gone: an act takes its place.
        x.taps(1);
        e.due(x, "undo()", 0);

        e.sentence(Document.promise(9), "STATE: none.");
        e.refuses(Stand::empty, Check.STATE, "undo()");
        e.refuses(() -> Check.told("r0,0;p0,1,0;"), Check.STATE, "undo()");
        x = Stand.busy();
        x.restore(0);
        e.due(x, "undo()", Check.STATE);
        x = Stand.acted();
        Check.tell(x, "r0,0;p0,1,0;");
        e.due(x, "undo()", Check.STATE);
        // Refused acts are none.
        x = Check.told("r0,0;p0,1,0;z0,1;");
        e.each(x, Check.BAD, "taps(0)", "front(1)", "off(1)", "back(1)", "sit(1, 0, 1)");
        e.each(x, Check.STATE, "back(0)", "sit(0, 0, 1)", "undo()");
    }

    private void taps() {
        e.sentence(Document.promise(10), "n TAPS (1 to 24), an ACT each: CLAPPED then.");
        RabbitList x = Check.told("r0,9;h1,1,0;p2,1,7;z2,20;");
        e.due(x, "taps(1)", 7);
        e.due(x, "count(3)", 1);
        e.due(x, "count(6)", 1);
        e.due(x, "taps(24)", 7);
        e.due(x, "count(3)", 25);
        e.due(x, "count(6)", 24);
        e.due(x, "undo()", 23);
        e.due(x, "count(3)", 24);
        e.due(x, "taps(2)", 7);
        e.due(x, "count(6)", 24);
    }

    private void tapsAreFull() {
        e.sentence(Document.promise(10), "BAD; STATE: no SHOW (ahead of BAD); FULL: TAP would be above 999.");
        e.refuses(Stand::busy, Check.BAD, "taps(0)", "taps(-1)", "taps(25)", "taps(MIN)", "taps(MAX)");
        e.refuses(Stand::empty, Check.STATE, "taps(1)", "taps(24)", "taps(0)", "taps(25)", "taps(MIN)", "taps(MAX)");
        e.refuses(Stand::late, Check.FULL, "taps(16)", "taps(17)", "taps(24)");
        e.refuses(Stand::latest, Check.FULL, "taps(1)", "taps(24)");
        e.refuses(Stand::latest, Check.BAD, "taps(0)", "taps(25)");
        RabbitList x = Stand.late();
        e.due(x, "taps(15)", 0);
        e.due(x, "count(3)", 999);
        e.due(x, "undo()", 23);
        e.due(x, "count(3)", 998);
        e.due(x, "taps(2)", Check.FULL);
        e.due(x, "taps(1)", 0);
        // Other acts, and what is foretold, go on at TAP 999.
        e.due(x, "off(0)", 0);
        e.due(x, "ahead(60, 3)", 0);
        e.due(x, "drawn(60, 1, 0)", 0);
        x = Stand.latest();
        e.due(x, "comes(0)", 1);
        e.due("show()", Check.tell(x, "r0,0;h0,1,0;"), 1);
        e.due(x, "taps(24)", 0);
    }

    private void movesThings() {
        e.sentence(Document.promise(11), "Put first: where on THE LIST it was (0 the first).");
        RabbitList x = Check.told("r0,0;" + Check.repeat("p0,1,0;", 6));
        e.due(x, "front(0)", 0);
        lists(x, 0, 1, 2, 3, 4, 5);
        e.due(x, "front(5)", 5);
        lists(x, 5, 0, 1, 2, 3, 4);
        e.due(x, "front(1)", 2);
        lists(x, 1, 5, 0, 2, 3, 4);
        e.due(x, "count(6)", 3);
        e.sentence(Document.promise(11), "BAD; STATE: it is off it.");
        e.refuses(Stand::busy, Check.BAD, "front(-1)", "front(5)", "front(MIN)", "front(MAX)");
        e.refuses(Stand::busy, Check.STATE, "front(1)", "front(2)", "front(3)");
        e.refuses(Stand::empty, Check.BAD, "front(0)");

        e.sentence(Document.promise(12), "Taken off: where on THE LIST it was.");
        e.due(x, "off(1)", 0);
        e.due(x, "off(4)", 4);
        e.due(x, "off(0)", 1);
        lists(x, 5, 2, 3);
        e.due(x, "off(5)", 0);
        e.due(x, "off(2)", 0);
        e.due(x, "off(3)", 0);
        lists(x);
        e.sentence(Document.promise(12), "BAD; STATE: it is off it.");
        e.refuses(Stand::busy, Check.BAD, "off(-1)", "off(5)", "off(MIN)", "off(MAX)");
        e.refuses(Stand::busy, Check.STATE, "off(1)", "off(2)", "off(3)");
        e.refuses(Stand::empty, Check.BAD, "off(0)");

        e.sentence(Document.promise(13), "Brought back: how many are on THE LIST then.");
        for (int n = 1; n <= 6; n++) {
            e.due(x, "back(" + (6 - n) + ")", n);
        }
        lists(x, 5, 4, 3, 2, 1, 0);
        e.sentence(Document.promise(13), "BAD; STATE: it is on it.");
        e.refuses(Stand::busy, Check.BAD, "back(-1)", "back(5)", "back(MIN)", "back(MAX)");
        e.refuses(Stand::busy, Check.STATE, "back(0)", "back(4)");
        e.refuses(Stand::empty, Check.BAD, "back(0)");
        e.due(Stand.busy(), "back(1)", 3);
    }

    private void sits() {
        e.sentence(Document.promise(14), "A SEAT is taken anew (LABEL 0 to 9, PATIENCE 1 to 20): who WAITS (bits).");
        RabbitList x = Stand.busy();
        e.due(x, "sit(0, 0, 1)", 21);
        e.due(x, "seat(0, 0)", 0);
        e.due(x, "seat(0, 1)", 1);
        e.due(x, "seat(0, 2)", 0);
        e.due(x, "sit(3, 9, 20)", 29);
        e.due(x, "seat(3, 0)", 9);
        e.due(x, "seat(3, 1)", 20);
        e.due(x, "stand(1)", 2);
        e.due(x, "stand(2)", 0);
        e.due(x, "stand(3)", 19);
        e.due(x, "sit(1, 5, 5)", 31);
        e.due(x, "count(6)", 11);

        e.sentence(Document.promise(14), "BAD; STATE: one WAITS there.");
        e.refuses(Stand::busy, Check.BAD, "sit(-1, 0, 1)", "sit(5, 0, 1)", "sit(MIN, 0, 1)", "sit(MAX, 0, 1)");
        e.refuses(Stand::busy, Check.BAD, "sit(0, -1, 1)", "sit(0, 10, 1)", "sit(0, MIN, 1)", "sit(0, MAX, 1)");
        e.refuses(Stand::busy, Check.BAD, "sit(0, 0, 0)", "sit(0, 0, -1)", "sit(0, 0, 21)", "sit(0, 0, MIN)", "sit(0, 0, MAX)");
        e.refuses(Stand::busy, Check.BAD, "sit(2, 10, 1)", "sit(2, 0, 0)", "sit(2, 0, 21)");
        e.refuses(Stand::busy, Check.STATE, "sit(2, 0, 1)", "sit(4, 9, 20)");
        e.refuses(() -> Check.told("r0,0;p0,1,0;"), Check.BAD, "sit(0, 0, 1)");
    }

    private void tellsThings() {
        e.sentence(Document.promise(15), "Of a THING: 0 LABEL, 1 WEIGHT, 2 JOY, 3 where on THE LIST (NONE: off it), 4 how many who WAIT WANT it.");
        RabbitList x = Stand.busy();
        e.due(x, "thing(0, 0)", 1);
        e.due(x, "thing(1, 1)", 9);
        e.due(x, "thing(4, 2)", 9);
        e.due(x, "thing(0, 3)", 0);
        e.due(x, "thing(4, 3)", 1);
        e.each(x, Check.NONE, "thing(1, 3)", "thing(2, 3)", "thing(3, 3)");
        e.each(x, 1, "thing(0, 4)", "thing(1, 4)", "thing(2, 4)", "thing(4, 4)");
        e.due(x, "thing(3, 4)", 0);
        e.due(Check.told("r0,0;p1,1,0;" + Check.repeat("z1,1;", 6)), "thing(0, 4)", 6);

        e.sentence(Document.promise(15), "BAD.");
        e.refuses(Stand::busy, Check.BAD, "thing(-1, 0)", "thing(5, 0)", "thing(MIN, 0)", "thing(MAX, 0)");
        e.refuses(Stand::busy, Check.BAD, "thing(0, -1)", "thing(0, 5)", "thing(0, MIN)", "thing(0, MAX)");
        e.refuses(Stand::empty, Check.BAD, "thing(0, 0)");
    }

    private void tellsSeats() {
        e.sentence(Document.promise(16), "Of a SEAT: 0 LABEL, 1 PATIENCE, 2 how it is (0 WAITS, 1 PLEASED, 2 LEFT).");
        RabbitList x = Stand.busy();
        int[][] dues = {{5, 0, 2}, {2, 2, 1}, {1, 2, 0}, {3, 8, 1}, {2, 4, 0}};
        for (int s = 0; s < dues.length; s++) {
            for (int what = 0; what < 3; what++) {
                e.due(x, "seat(" + s + ", " + what + ")", dues[s][what]);
            }
        }
        e.sentence(Document.promise(16), "BAD.");
        e.refuses(Stand::busy, Check.BAD, "seat(-1, 0)", "seat(5, 0)", "seat(MIN, 0)", "seat(MAX, 0)");
        e.refuses(Stand::busy, Check.BAD, "seat(0, -1)", "seat(0, 3)", "seat(0, MIN)", "seat(0, MAX)");
        e.refuses(Stand::empty, Check.BAD, "seat(0, 0)");
    }

    private void tellsTheList() {
        e.sentence(Document.promise(17), "The k-th THING of THE LIST (0 on); NONE.");
        RabbitList x = Stand.busy();
        e.due(x, "list(0)", 0);
        e.due(x, "list(1)", 4);
        e.each(x, Check.NONE, "list(2)", "list(5)", "list(6)", "list(MAX)");
        x = Check.told("r0,0;" + Check.repeat("p0,1,0;", 6));
        e.due(x, "list(5)", 5);
        e.due(x, "list(6)", Check.NONE);
        x.taps(6);
        e.due(x, "list(0)", Check.NONE);

        e.sentence(Document.promise(17), "BAD: below 0; STATE: no SHOW (ahead of BAD).");
        e.refuses(Stand::busy, Check.BAD, "list(-1)", "list(MIN)");
        e.refuses(Stand::empty, Check.STATE, "list(0)", "list(-1)", "list(MIN)", "list(MAX)");
    }

    private void tellsHowItStands() {
        e.sentence(Document.promise(18), "SEATS (bits): 0 WAIT, 1 PLEASED, 2 LEFT; 3 CLAPPED.");
        stands(Stand.busy(), 20, 10, 1, 19);
        stands(Check.told("r0,0;p0,1,9;"), 0, 0, 0, 0);
        stands(Check.told("r0,0;p0,1,9;" + Check.repeat("z0,1;", 6)), 63, 0, 0, 0);
        e.sentence(Document.promise(18), "BAD; STATE: no SHOW (ahead of BAD).");
        e.refuses(Stand::busy, Check.BAD, "stand(-1)", "stand(4)", "stand(MIN)", "stand(MAX)");
        e.refuses(Stand::empty, Check.STATE, "stand(0)", "stand(3)", "stand(-1)", "stand(4)");
    }
}
