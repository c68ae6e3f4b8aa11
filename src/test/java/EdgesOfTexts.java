/** What "Terms" tells of TEXTS, and promises 6 to 8. */
final class EdgesOfTexts {
    private static final String TERMS = Document.TERMS;
    private static final String THINGS6 = Check.repeat("p0,1,0;", 6);
    private static final String SEATS6 = Check.repeat("z0,1;", 6);
    private static final String LONGEST = "r60,09;" + Check.repeat("p09,20,09;", 6) + Check.repeat("z09,20;", 6);
    private final Edge e;

    private EdgesOfTexts(Edge e) {
        this.e = e;
    }

    static void hold(Edge e) {
        EdgesOfTexts edges = new EdgesOfTexts(e);
        edges.tape();
        edges.tokens();
        edges.shows();
        edges.laws();
        edges.things();
        edges.seats();
        edges.standsInPlace();
        edges.firstFault();
        edges.leastFault();
        edges.misplaced();
        edges.unfitAndTooMany();
        edges.feeds();
        edges.reads();
        edges.allStays();
        edges.latestFault();
    }

    private void fault(String text, int place, int number) {
        RabbitList x = new RabbitList();
        e.due("show() of " + text, Check.tell(x, text), -1000100 - place);
        e.due("fault() of " + text, x.fault(), number);
        e.due("count(1) behind " + text, x.count(1), 0);
    }

    private RabbitList read(String text, int things) {
        RabbitList x = new RabbitList();
        e.due("show() of " + text, Check.tell(x, text), things);
        e.due("fault() of " + text, x.fault(), 0);
        return x;
    }

    private void tape() {
        e.sentence(TERMS, "TEXTS: THE TAPE has at most 120 bytes, that come one by one;");
        RabbitList x = new RabbitList();
        for (int i = 1; i <= 120; i++) {
            e.due(x, "feed(114)", i);
        }
        e.each(x, Check.FULL, "feed(114)", "feed(0)");
        e.due(x, "count(7)", 120);
        e.due(x, "show()", -1000101);
        e.due(x, "feed(114)", 1);
        // The longest show has 109 bytes; what else stands on a full tape is read, too.
        read(LONGEST, 6);
        fault(LONGEST + "z0,1;z0,1;z", 109, 3);
        fault(LONGEST + Check.repeat(";", 11), 109, 1);
    }

    private void tokens() {
        e.sentence(TERMS, "TOKENS: letters a to z (each by itself), NUMBERS (figures, 2 at most), SIGNS , and ; nothing else.");
        // Each sign that stands beside one that is a token.
        for (int sign : new int[] {0, 10, 32, 43, 45, 46, 47, 58, 60, 64, 65, 82, 90, 91, 96, 123, 127, 128, 242, 255}) {
            String other = "" + (char) sign;
            fault(other, 0, 1);
            fault("r" + other, 1, 1);
            fault("r1" + other, 2, 1);
            fault("r1,1;" + other, 5, 1);
            fault("r1,1;p1,1,1;" + other, 12, 1);
        }
        fault("rp", 1, 1);
        fault("r0,0;pp", 6, 1);
        fault("r0,0;p0,1,0;zz", 13, 1);
        read("r00,00;p00,01,00;z00,01;", 1);
        read("r0,0;p0,1,0;z0,1;", 1);
        fault("r000,0;p0,1,0;", 1, 1);
        fault("r0,000;p0,1,0;", 3, 1);
    }

    private void shows() {
        e.sentence(TERMS, "show: law thing { thing } { seat }.");
        read("r0,0;p0,1,0;", 1);
        read("r0,0;p0,1,0;p0,1,0;", 2);
        read("r0,0;p0,1,0;z0,1;", 1);
        read("r0,0;p0,1,0;z0,1;z0,1;", 1);
        fault("", 0, 1);
        fault("r0,0;", 5, 1);
        fault("p0,1,0;", 0, 1);
        fault("z0,1;", 0, 1);
        fault("r0,0;z0,1;", 5, 1);
        fault("r0,0;r0,0;p0,1,0;", 5, 1);
        fault("r0,0;p0,1,0;r0,0;", 12, 1);
        fault("r0,0;p0,1,0;z0,1;p0,1,0;", 17, 1);
        fault("r0,0;p0,1,0;z0,1;r", 17, 1);
    }

    private void laws() {
        e.sentence(TERMS, "law: r ROOM , EXTRA ; (0 to 60; 0 to 9).");
        RabbitList x = read("r0,0;h0,1,9;z1,2;", 1);
        e.due(x, "pack(0)", 0);
        x.taps(1);
        e.due(x, "seat(0, 1)", 1);
        x = read("r60,9;p0,20,9;p0,20,9;h0,20,9;z1,2;", 3);
        e.due(x, "pack(0)", 7);
        x.front(2);
        x.taps(1);
        e.due(x, "seat(0, 1)", 10);
        x = read("r59,1;p0,20,9;p0,20,9;h0,20,9;z1,2;", 3);
        e.due(x, "pack(0)", 3);
        fault("r61,0;p0,1,0;", 1, 2);
        fault("r99,0;p0,1,0;", 1, 2);
        fault("r0,10;p0,1,0;", 3, 2);
        fault("r0,99;p0,1,0;", 3, 2);
        fault("r,0;p0,1,0;", 1, 1);
        fault("r0,;p0,1,0;", 3, 1);
        fault("r0;p0,1,0;", 2, 1);
        fault("r0,0,p0,1,0;", 4, 1);
    }

    private void things() {
        e.sentence(TERMS, "thing: SORT LABEL , WEIGHT , JOY ; (SORT: p a plain one, b a big one, f flags, l a live one, h one that is held; 0 to 9; 1 to 20; 0 to 9;");
        for (char letter = 'a'; letter <= 'z'; letter++) {
            int kind = "pbflh".indexOf(letter) + 1;
            String text = "r0,0;" + letter + "0,1,0;";
            if (kind > 0) {
                e.due(read(text, 1), "kind(0)", kind);
            } else {
                fault(text, 5, 1);
            }
        }
        RabbitList x = read("r0,0;p0,1,0;p9,20,9;", 2);
        e.due(x, "thing(0, 0)", 0);
        e.due(x, "thing(0, 1)", 1);
        e.due(x, "thing(0, 2)", 0);
        e.due(x, "thing(1, 0)", 9);
        e.due(x, "thing(1, 1)", 20);
        e.due(x, "thing(1, 2)", 9);
        fault("r0,0;p10,1,0;", 6, 2);
        fault("r0,0;p0,0,0;", 8, 2);
        fault("r0,0;p0,21,0;", 8, 2);
        fault("r0,0;p0,1,10;", 10, 2);

        e.sentence(TERMS, "THINGS 0 .. 5, 6 at most, on THE LIST in this order).");
        x = read("r0,0;h5,1,0;p4,1,0;p3,1,0;p2,1,0;p1,1,0;p0,1,0;", 6);
        for (int t = 0; t < 6; t++) {
            e.due(x, "list(" + t + ")", t);
            e.due(x, "thing(" + t + ", 3)", t);
            e.due(x, "thing(" + t + ", 0)", 5 - t);
        }
        e.due(x, "list(6)", Check.NONE);
        e.each(x, Check.BAD, "thing(6, 0)", "thing(-1, 0)");
        fault("r0,0;" + THINGS6 + "p0,1,0;", 47, 3);
    }

    private void seats() {
        e.sentence(TERMS, "seat: z LABEL , PATIENCE ; (0 to 9; 1 to 20;");
        RabbitList x = read("r0,0;p0,1,0;z0,1;z9,20;", 1);
        e.due(x, "seat(0, 0)", 0);
        e.due(x, "seat(0, 1)", 1);
        e.due(x, "seat(1, 0)", 9);
        e.due(x, "seat(1, 1)", 20);
        fault("r0,0;p0,1,0;z10,1;", 13, 2);
        fault("r0,0;p0,1,0;z0,0;", 15, 2);
        fault("r0,0;p0,1,0;z0,00;", 15, 2);
        fault("r0,0;p0,1,0;z0,21;", 15, 2);

        e.sentence(TERMS, "SEATS 0 .. 5, 6 at most: one WAITS in each, who WANTS THINGS of that LABEL).");
        x = read("r0,0;p3,1,0;" + "z3,1;z3,1;z4,1;z3,1;z3,1;z3,1;", 1);
        e.due(x, "count(2)", 6);
        for (int s = 0; s < 6; s++) {
            e.due(x, "seat(" + s + ", 2)", 0);
        }
        e.due(x, "stand(0)", 63);
        e.due(x, "thing(0, 4)", 5);
        e.each(x, Check.BAD, "seat(6, 0)", "seat(-1, 0)");
        fault("r0,0;p0,1,0;" + SEATS6 + "z0,1;", 42, 3);
        e.due(read("r0,0;p3,1,0;", 1), "stand(0)", 0);
    }

    private void standsInPlace() {
        e.sentence(TERMS, "A SHOW that is read stands in place of the one before (none at first): TAP 0, nobody is PLEASED, LEFT, they CLAPPED 0; no ACT can be undone.");
        RabbitList x = Stand.acted();
        e.due("show()", Check.tell(x, "r0,0;l7,1,0;z1,2;"), 1);
        e.each(x, 1, "count(1)", "count(2)", "count(4)", "stand(0)");
        e.each(x, 0, "count(3)", "count(5)", "count(6)", "stand(1)", "stand(2)", "stand(3)");
        e.due(x, "undo()", Check.STATE);
        e.each(x, Check.BAD, "thing(1, 0)", "seat(1, 0)", "kind(1)");
        e.due(x, "thing(0, 0)", 7);
        e.due(x, "count(0)", 4);
        e.due("show(), the same once more", Check.tell(x, "r0,0;l7,1,0;z1,2;"), 1);
        x.taps(2);
        e.due("show(), no seat", Check.tell(x, "r0,0;p0,1,0;"), 1);
        e.each(x, 0, "count(2)", "count(3)", "stand(0)", "stand(2)");
    }

    private void firstFault() {
        e.sentence(TERMS, "FAULTS, the first TOKEN that has one (its first byte),");
        fault("r61,10;x", 1, 2);
        fault("r60,10;x", 4, 2);
        fault("r60,9;x", 6, 1);
        fault("r0,0;p10,21,", 6, 2);
        fault("r0,0;p9,21,", 8, 2);
        fault("r0,0;" + THINGS6 + "p99", 47, 3);
        fault("r0,0;p0,1,0;" + SEATS6 + "z99", 42, 3);
    }

    private void leastFault() {
        e.sentence(TERMS, "of one TOKEN the least:");
        // 1 and 3: a thing behind a seat, with six things there; 1 and 2: a number that is too large where none stands.
        fault("r0,0;" + THINGS6 + "z0,1;p0,1,0;", 52, 1);
        fault("r0,0;" + THINGS6 + SEATS6 + "p", 77, 1);
        fault("r0,0;" + THINGS6 + SEATS6 + "z", 77, 3);
        fault("99", 0, 1);
        fault("r0,0;99", 5, 1);
        fault("r0,0;p0,1,0;99", 12, 1);
        fault("r999", 1, 1);
        fault("r0,0;p0,999,0;", 8, 1);
    }

    private void misplaced() {
        e.sentence(TERMS, "1 it cannot stand there, or is none (a run of three figures, at its first; the end: how many bytes there are);");
        fault("r00", 3, 1);
        fault("r000", 1, 1);
        fault("r0000", 1, 1);
        fault("r0,0;p0,1,0;z0,020;", 15, 1);
        fault("000", 0, 1);
        fault("r0,0;p0,1,0;z0,1;000", 17, 1);
        String text = "r60,9;p0,20,9;h9,1,0;z9,20;z1,2;";
        for (int end = 0; end < text.length(); end++) {
            if (end != 14 && end != 21 && end != 27) {
                fault(text.substring(0, end), end, 1);
            }
        }
        read(text.substring(0, 14), 1);
        read(text.substring(0, 21), 2);
        read(text.substring(0, 27), 2);
        read(text, 2);
        // What stood on the tape before is no part of it: the end is where this text ends.
        for (int end = 0; end < 14; end++) {
            RabbitList x = Check.told(text);
            e.due("show() of " + text.substring(0, end), Check.tell(x, text.substring(0, end)), -1000100 - end);
            e.due(x, "fault()", 1);
        }
    }

    private void unfitAndTooMany() {
        e.sentence(TERMS, "2 a NUMBER that is not as told;");
        fault("r61", 1, 2);
        fault("r61;", 1, 2);
        fault("r0,10", 3, 2);
        fault("r0,0;p0,00", 8, 2);
        fault("r0,0;p0,0", 8, 2);
        fault("r0,0;p0,21", 8, 2);
        fault("r0,0;p0,20", 10, 1);
        fault("r0,0;p0,1,0;z0,0", 15, 2);
        fault("r0,0;p0,1,0;z0,21", 15, 2);
        fault("r0,0;p0,1,0;z0,20", 17, 1);

        e.sentence(TERMS, "3 a thing, a seat more than there is room for (its letter).");
        for (char letter : "pbflh".toCharArray()) {
            fault("r0,0;" + THINGS6 + letter, 47, 3);
        }
        fault("r0,0;" + THINGS6 + "a", 47, 1);
        fault("r0,0;p0,1,0;" + SEATS6 + "z", 42, 3);
        fault("r0,0;p0,1,0;" + SEATS6 + "y", 42, 1);
        read("r0,0;" + THINGS6 + SEATS6, 6);
    }

    private void feeds() {
        e.sentence(Document.promise(6), "A byte (0 to 255) comes behind the tape: how many it has.");
        RabbitList x = new RabbitList();
        e.due(x, "feed(0)", 1);
        e.due(x, "feed(255)", 2);
        e.due(x, "count(7)", 2);
        e.due(x, "show()", -1000100);
        e.due(x, "feed(114)", 1);
        e.due(x, "feed(255)", 2);
        e.due(x, "show()", -1000101);

        e.sentence(Document.promise(6), "BAD; FULL.");
        e.refuses(Stand::busy, Check.BAD, "feed(-1)", "feed(256)", "feed(MIN)", "feed(MAX)", "feed(370)");
        e.refuses(Stand::empty, Check.BAD, "feed(-1)", "feed(256)");
        e.refuses(Stand::fullTape, Check.FULL, "feed(0)", "feed(114)", "feed(255)");
    }

    private void reads() {
        e.sentence(Document.promise(7), "The tape, empty then, is read: how many THINGS there are.");
        for (int n = 1; n <= 6; n++) {
            RabbitList x = read("r0,0;" + Check.repeat("h9,20,9;", n), n);
            e.due(x, "count(7)", 0);
            e.due(x, "count(1)", n);
            e.due(x, "show()", -1000100);
            e.due(x, "fault()", 1);
            e.due(x, "count(1)", n);
        }
    }

    private void allStays() {
        e.sentence(Document.promise(7), "-1000100 less the place of a FAULT: all stays.");
        String[] texts = {"r61", "r0,0;p0,1,10;", "r0,0;p0,1,0;z0,21;", LONGEST.substring(0, 106) + "21"};
        int[] places = {1, 10, 15, 106};
        for (int i = 0; i < texts.length; i++) {
            RabbitList x = Stand.acted();
            e.due("show() of " + texts[i], Check.tell(x, texts[i]), -1000100 - places[i]);
            e.due(x, "count(7)", 0);
            // It had FAULT 2 already: nothing that can be seen is other than it was.
            e.seenAlike("show() of " + texts[i], x, Stand.acted(), Check.NONE);
        }
        RabbitList x = Stand.acted();
        e.due(x, "show()", -1000100);
        e.due(x, "count(1)", 5);
        e.due(x, "count(6)", 8);
    }

    private void latestFault() {
        e.sentence(Document.promise(8), "The number of the latest FAULT; 0 before one.");
        RabbitList x = new RabbitList();
        e.due(x, "fault()", 0);
        Check.tell(x, "r0,0;p0,1,0;");
        e.due(x, "fault()", 0);
        Check.tell(x, "r0,0;" + THINGS6 + "p");
        e.each(x, 3, "fault()", "fault()");
        Check.tell(x, "r0,0;p0,1,0;");
        e.due(x, "fault()", 3);
        Check.tell(x, "r99");
        e.due(x, "fault()", 2);
        x.show();
        e.due(x, "fault()", 1);
        x.image(0);
        x.restore(0);
        e.due(x, "fault()", 1);
    }
}
