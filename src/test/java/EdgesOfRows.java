/** What "Terms" tells of ROWS, promises 2 to 5, and 41. */
final class EdgesOfRows {
    private final Edge e;

    private EdgesOfRows(Edge e) {
        this.e = e;
    }

    static void hold(Edge e) {
        EdgesOfRows edges = new EdgesOfRows(e);
        edges.rowsAtFirst();
        edges.lanesAndItems();
        edges.rowIsMade();
        edges.itemIsSet();
        edges.itemIsNotSet();
        edges.itemsAreCopied();
        edges.itemsAreNotCopied();
        edges.rowIsDropped();
        edges.statusIsTold();
        edges.statusStays();
    }

    /** The ITEMS of a ROW, 1 where it is 5, as an object of Stand.fives() tells them. */
    private void fives(RabbitList x, int row, String want) {
        for (int i = 0; i < want.length(); i++) {
            e.due(x, "wasOff(" + row + ", " + i + ", 1)", want.charAt(i) == '1' ? 64 : 0);
        }
    }

    private void rowsAtFirst() {
        e.sentence(Document.TERMS, "ROWS 0 .. 7 are missing (at first),");
        RabbitList x = new RabbitList();
        for (int r = 0; r < 8; r++) {
            e.each(x, Check.NULL, "set(" + r + ", 0, 0)", "drop(" + r + ")", "copy(" + r + ", 0, " + r + ", 0, 0)");
        }
        e.each(x, Check.BAD, "drop(-1)", "drop(8)");
        e.due(x, "count(0)", 0);
        for (int r = 0; r < 8; r++) {
            e.due(x, "row(" + r + ", 0, 0)", 0);
            e.due(x, "count(0)", r + 1);
        }
    }

    private void lanesAndItems() {
        e.sentence(Document.TERMS, "or have a LANE (0 bytes, 1 shorts, 2 ints)");
        RabbitList x = new RabbitList();
        e.each(x, Check.BAD, "row(0, -1, 1)", "row(0, 3, 1)");
        e.each(x, 1, "row(0, 0, 1)", "row(1, 1, 1)", "row(2, 2, 1)");
        e.due(x, "set(0, 0, 33023)", -1);
        e.due(x, "set(1, 0, 33023)", -32513);
        e.due(x, "set(2, 0, 33023)", 33023);

        e.sentence(Document.TERMS, "and 0 to 40 ITEMS,");
        e.due(x, "row(0, 0, 0)", 0);
        e.due(x, "set(0, 0, 1)", Check.PLACE);
        e.due(x, "row(7, 2, 40)", 40);
        e.due(x, "set(7, 39, 1)", 1);
        e.due(x, "set(7, 40, 1)", Check.PLACE);
        e.due(x, "row(7, 2, 41)", Check.BAD);
        e.due(x, "drop(7)", 40);

        e.sentence(Document.TERMS, "0 at first.");
        x = Check.told("r0,0;p0,1,0;");
        for (int lane = 0; lane < 3; lane++) {
            e.due(x, "row(4, " + lane + ", 40)", 40);
            for (int i = 0; i < 40; i++) {
                e.due(x, "wasOff(4, " + i + ", 1)", 65);
            }
        }
    }

    private void rowIsMade() {
        String place = Document.promise(2);
        e.sentence(place, "A ROW of a LANE with n ITEMS, in place of what is there: n.");
        RabbitList x = Stand.fives();
        Check.fill(x, 0, 0, 5, 5, 5);
        e.due(x, "row(0, 2, 1)", 1);
        e.due(x, "count(0)", 1);
        fives(x, 0, "0");
        e.due(x, "set(0, 1, 5)", Check.PLACE);
        e.due(x, "set(0, 0, 70000)", 70000);
        e.due(x, "row(0, 1, 40)", 40);
        fives(x, 0, "000");
        e.due(x, "set(0, 0, 70000)", 4464);
        e.due(x, "row(0, 0, 0)", 0);
        e.due(x, "count(0)", 1);
        e.due(x, "drop(0)", 0);

        e.sentence(place, "BAD: ROW, LANE, n above 40; SIZE.");
        e.refuses(Stand::busy, Check.BAD, "row(-1, 0, 1)", "row(8, 0, 1)", "row(MIN, 0, 1)", "row(MAX, 0, 1)");
        e.refuses(Stand::busy, Check.BAD, "row(0, -1, 1)", "row(0, 3, 1)", "row(0, MIN, 1)", "row(0, MAX, 1)");
        e.refuses(Stand::busy, Check.BAD, "row(0, 0, 41)", "row(7, 2, 41)", "row(3, 1, MAX)");
        e.refuses(Stand::busy, Check.SIZE, "row(0, 0, -1)", "row(7, 2, -1)", "row(3, 1, MIN)");
    }

    private void itemIsSet() {
        e.sentence(Document.promise(3), "ITEM i becomes v, its lowest bits, as many as the LANE has: what it is then.");
        RabbitList x = Stand.fives();
        x.row(0, 0, 3);
        x.row(1, 1, 3);
        x.row(2, 2, 3);
        int[][] dues = {
            {0, 127, 127}, {0, 128, -128}, {0, -128, -128}, {0, -129, 127}, {0, 255, -1}, {0, 256, 0},
            {0, Integer.MAX_VALUE, -1}, {0, Integer.MIN_VALUE, 0},
            {1, 32767, 32767}, {1, 32768, -32768}, {1, -32768, -32768}, {1, -32769, 32767}, {1, 65535, -1}, {1, 65536, 0},
            {1, Integer.MAX_VALUE, -1}, {1, Integer.MIN_VALUE, 0}, {1, 128, 128}, {1, -129, -129},
            {2, Integer.MAX_VALUE, Integer.MAX_VALUE}, {2, Integer.MIN_VALUE, Integer.MIN_VALUE}, {2, 65536, 65536}, {2, -1, -1}};
        for (int[] due : dues) {
            e.due(x, "set(" + due[0] + ", 1, " + due[1] + ")", due[2]);
        }
        e.due(x, "set(0, 0, 261)", 5);
        e.due(x, "set(0, 2, -251)", 5);
        e.due(x, "set(1, 1, 65541)", 5);
        e.due(x, "set(2, 2, 5)", 5);
        fives(x, 0, "101");
        fives(x, 1, "010");
        fives(x, 2, "001");
        e.due(x, "set(0, 2, 5)", 5);
        fives(x, 0, "101");
    }

    private void itemIsNotSet() {
        e.sentence(Document.promise(3), "BAD: ROW; NULL; PLACE.");
        e.refuses(Stand::busy, Check.BAD, "set(-1, 0, 1)", "set(8, 0, 1)", "set(MIN, 0, 1)", "set(MAX, 0, 1)");
        e.refuses(Stand::busy, Check.NULL, "set(4, 0, 1)", "set(7, 0, 1)", "set(7, 40, 1)", "set(7, MIN, 1)");
        e.refuses(Stand::busy, Check.PLACE, "set(0, -1, 1)", "set(0, 3, 1)", "set(0, MIN, 1)", "set(0, MAX, 1)");
        e.refuses(Stand::busy, Check.PLACE, "set(2, 0, 1)", "set(2, -1, 1)", "set(3, 40, 1)", "set(1, 2, 1)");
        RabbitList x = Stand.busy();
        e.each(x, 9, "set(0, 0, 9)", "set(0, 2, 9)", "set(3, 39, 9)", "set(1, 1, 9)");
        x.drop(0);
        e.due(x, "set(0, 0, 9)", Check.NULL);
    }

    private void itemsAreCopied() {
        e.sentence(Document.promise(4), "n ITEMS of a from i on come to b from j on, as they were ahead: n.");
        RabbitList x = Stand.fives();
        Check.fill(x, 0, 2, 5, 5, 0, 0);
        e.due(x, "copy(0, 0, 0, 1, 3)", 3);
        fives(x, 0, "1110");
        Check.fill(x, 0, 2, 0, 5, 0, 5);
        e.due(x, "copy(0, 1, 0, 0, 3)", 3);
        fives(x, 0, "1011");
        e.due(x, "copy(0, 0, 0, 0, 4)", 4);
        fives(x, 0, "1011");
        Check.fill(x, 1, 2, 5, 5, 5);
        e.due(x, "copy(0, 1, 1, 2, 1)", 1);
        fives(x, 1, "110");
        e.due(x, "copy(0, 4, 1, 3, 0)", 0);
        e.due(x, "copy(0, 0, 1, 0, 0)", 0);
        fives(x, 1, "110");
        e.due(x, "copy(0, 1, 1, 0, 3)", 3);
        fives(x, 1, "011");
        fives(x, 0, "1011");
        x.row(2, 1, 40);
        x.row(3, 1, 40);
        x.set(2, 0, 5);
        x.set(2, 39, 5);
        e.due(x, "copy(2, 0, 3, 0, 40)", 40);
        e.due(x, "wasOff(3, 0, 1)", 64);
        e.due(x, "wasOff(3, 1, 1)", 0);
        e.due(x, "wasOff(3, 39, 1)", 64);
        x.row(4, 1, 0);
        e.due(x, "copy(4, 0, 4, 0, 0)", 0);
        e.due(x, "copy(4, 0, 3, 40, 0)", 0);
    }

    private void itemsAreNotCopied() {
        e.sentence(Document.promise(4), "BAD: ROWS; NULL; STORE; PLACE (i, j, n below 0, or beyond an end).");
        e.refuses(Stand::busy, Check.BAD, "copy(-1, 0, 0, 0, 0)", "copy(8, 0, 0, 0, 0)", "copy(0, 0, -1, 0, 0)", "copy(0, 0, 8, 0, 0)");
        e.refuses(Stand::busy, Check.NULL, "copy(7, 0, 7, 0, 0)", "copy(7, 0, 0, 0, 0)", "copy(0, 0, 4, 0, 0)");
        e.refuses(Stand::busy, Check.STORE, "copy(0, 0, 1, 0, 0)", "copy(1, 0, 0, 0, 0)", "copy(2, 0, 0, 0, 0)", "copy(1, 0, 3, 0, 1)");
        e.refuses(Stand::busy, Check.PLACE, "copy(0, -1, 0, 0, 1)", "copy(0, 0, 0, -1, 1)", "copy(0, 0, 0, 0, -1)");
        e.refuses(Stand::busy, Check.PLACE, "copy(0, MIN, 0, 0, 1)", "copy(0, 0, 0, MIN, 1)", "copy(0, 0, 0, 0, MIN)", "copy(0, 1, 0, 1, -1)");
        e.refuses(Stand::busy, Check.PLACE, "copy(0, 0, 0, 0, 4)", "copy(0, 1, 0, 0, 3)", "copy(0, 0, 0, 1, 3)", "copy(0, 3, 0, 0, 1)");
        e.refuses(Stand::busy, Check.PLACE, "copy(0, 4, 0, 0, 0)", "copy(0, 0, 0, 4, 0)", "copy(0, 4, 0, 4, -1)");
        e.refuses(Stand::busy, Check.PLACE, "copy(3, 0, 2, 0, 1)", "copy(2, 0, 3, 0, 1)", "copy(3, 0, 3, 1, 40)", "copy(3, 0, 3, 0, 41)");
        e.refuses(Stand::busy, Check.PLACE, "copy(0, MAX, 0, 0, 1)", "copy(0, 0, 0, MAX, 1)", "copy(0, 0, 0, 0, MAX)");
        e.refuses(Stand::busy, Check.PLACE, "copy(0, MAX, 0, MAX, MAX)", "copy(0, 1, 0, 1, MAX)", "copy(0, MAX, 0, 0, 2)", "copy(0, 0, 0, MAX, 2)");
    }

    private void rowIsDropped() {
        e.sentence(Document.promise(5), "A ROW is missing from now on: how many ITEMS it had.");
        RabbitList x = Stand.busy();
        e.due(x, "drop(3)", 40);
        e.due(x, "drop(2)", 0);
        e.due(x, "drop(0)", 3);
        e.due(x, "count(0)", 1);
        e.each(x, Check.NULL, "drop(3)", "set(3, 0, 0)", "wasOff(0, 0, 1)", "copy(2, 0, 2, 0, 0)");
        e.due(x, "row(3, 0, 1)", 1);
        e.due(x, "drop(3)", 1);

        e.sentence(Document.promise(5), "BAD; NULL.");
        e.refuses(Stand::busy, Check.BAD, "drop(-1)", "drop(8)", "drop(MIN)", "drop(MAX)");
        e.refuses(Stand::busy, Check.NULL, "drop(4)", "drop(7)");
    }

    private void statusIsTold() {
        e.sentence(Document.promise(41), "Of the latest call with a ROW, or as(),");
        RabbitList x = Stand.busy();
        String[] calls = {"row(7, 0, -1)", "row(4, 0, 1)", "set(0, 9, 1)", "set(4, 0, 1)", "copy(0, 0, 1, 0, 1)", "copy(0, 0, 4, 0, 1)",
            "drop(7)", "drop(4)", "who(0, 0, 0, 3, 1)", "who(0, 0, 0, 0, 1)", "wanted(2, 0, 7, 0, 1)", "wanted(2, 0, 0, 0, 1)",
            "wasOff(0, 3, 1)", "wasOff(0, 0, 1)", "as(0, 2)", "as(0, 1)"};
        int[] findings = {4, 0, 2, 0, 5, 0, 1, 0, 2, 0, 1, 0, 2, 0, 3, 0};
        for (int i = 0; i < calls.length; i++) {
            Call.make(x, calls[i]);
            e.due("status() behind " + calls[i], x.status(), findings[i]);
        }

        e.sentence(Document.promise(41), "the number of its FINDING; 0: it had none, or there was none.");
        x = new RabbitList();
        e.due(x, "status()", 0);
        e.due(x, "drop(0)", Check.NULL);
        e.each(x, 1, "status()", "status()");
        e.due(x, "row(0, 0, 0)", 0);
        e.due(x, "status()", 0);
    }

    private void statusStays() {
        e.sentence(Document.promise(41), "that was not BAD, STATE, FULL:");
        RabbitList x = Stand.busy();
        x.as(0, 2);
        e.each(x, Check.BAD, "row(8, 0, 0)", "set(8, 0, 0)", "copy(8, 0, 0, 0, 0)", "drop(8)", "who(0, 0, 0, 0, 0)");
        e.each(x, Check.BAD, "wanted(2, 0, 0, 0, 0)", "wasOff(0, 0, 0)", "as(0, 6)", "feed(256)", "count(8)");
        e.each(x, Check.STATE, "wanted(1, 0, 0, 0, 1)", "back(0)");
        e.due(x, "status()", 3);
        // Calls without a ROW don't count, refused or not.
        x.taps(1);
        x.undo();
        x.feed(0);
        x.show();
        x.ask(0, 0);
        x.kind(0);
        x.order(0);
        x.image(0);
        x.restore(0);
        e.due(x, "status()", 3);
        x = Stand.latest();
        x.drop(0);
        e.due(x, "taps(1)", Check.FULL);
        e.due(x, "status()", 1);
        x = new RabbitList();
        x.row(0, 0, -1);
        e.due(x, "wasOff(0, 0, 1)", Check.STATE);
        e.due(x, "status()", 4);
    }
}
