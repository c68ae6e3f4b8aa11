/** The first sentences of "Terms", and promise 1. */
final class EdgesOfRefusals {
    private static final String TERMS = Document.TERMS;
    private final Edge e;

    private EdgesOfRefusals(Edge e) {
        this.e = e;
    }

    static void hold(Edge e) {
        EdgesOfRefusals edges = new EdgesOfRefusals(e);
        edges.numbersAndSets();
        edges.fractions();
        edges.whatIsAnswered();
        edges.badAheadOfState();
        edges.stateAheadOfBad();
        edges.aheadOfFull();
        edges.aheadOfFindings();
        edges.findingsInTime();
        edges.numbersOfFindings();
        edges.nothingChanges();
        edges.newObject();
    }

    private void numbersAndSets() {
        e.sentence(TERMS, "Numbers go from 0 on.");
        RabbitList x = Check.told("r0,0;p3,1,0;z4,1;");
        e.due(x, "thing(0, 0)", 3);
        e.each(x, Check.BAD, "thing(-1, 0)", "thing(1, 0)", "seat(-1, 0)", "seat(1, 0)", "row(-1, 0, 1)", "image(-1)");
        e.due(x, "seat(0, 0)", 4);
        e.due(x, "list(0)", 0);
        e.due(x, "list(1)", Check.NONE);
        e.due(x, "row(0, 0, 1)", 1);
        e.due(x, "set(0, 0, 5)", 5);
        e.due(x, "set(0, 1, 5)", Check.PLACE);
        e.due(x, "image(0)", 1);
        e.due(x, "order(0)", 0);

        e.sentence(TERMS, "Sets are bits.");
        x = Check.told("r60,0;" + Check.repeat("p1,1,1;", 6) + Check.repeat("z1,2;", 6));
        e.due(x, "pack(0)", 63);
        e.due(x, "stand(0)", 63);
        e.due(x, "stand(1)", 0);
        e.due(x, "next(1)", 1);
        x = Check.told("r0,0;p1,1,0;" + Check.repeat("z9,9;", 5) + "z1,1;");
        e.due(x, "next(1)", 32);
        e.due(x, "lack()", 512);
        x.taps(1);
        e.due(x, "stand(1)", 32);
        e.due(x, "stand(0)", 31);
    }

    private void likely(RabbitList x, String told, long above, long below) {
        e.due(x, "wander(" + told + ", 0)", above);
        e.due(x, "wander(" + told + ", 1)", below);
    }

    private void fractions() {
        e.sentence(TERMS, "All that is divided is cut towards 0, but fractions, told as two numbers in lowest terms (0 is 0 by 1).");
        RabbitList x = Check.told("r0,0;p1,1,3;z1,9;");
        likely(x, "4, 1, 4", 0, 1);
        likely(x, "3, 1, 10", 0, 1);
        likely(x, "3, 1, 9", 1, 10);
        likely(x, "3, 1, 5", 1, 2);
        likely(x, "3, 1, 4", 3, 5);
        likely(x, "3, 1, 0", 1, 1);
        likely(x, "0, 1, 5", 1, 1);
        RabbitList six = Check.told("r0,0;f1,1,1;" + Check.repeat("z1,9;", 6));
        likely(six, "6, 1, 9", 1, 1000000);
        likely(six, "1, 1, 1", 999999, 1000000);
        likely(six, "1, 1, 9", 468559, 1000000);
        likely(six, "6, 1, 5", 1, 64);
        likely(six, "6, 1, 8", 1, 15625);
        likely(Check.told("r0,0;p1,1,3;"), "1, 30, 5", 0, 1);
        likely(Check.told("r0,0;p1,1,3;"), "0, 30, 5", 1, 1);
    }

    private void whatIsAnswered() {
        e.sentence(TERMS, "Refusals are answers,");
        RabbitList x = Stand.busy();
        e.each(x, -1000001, "row(MIN, MIN, MIN)", "row(MAX, MAX, MAX)", "set(MIN, MIN, MIN)", "set(MAX, MAX, MAX)");
        e.each(x, -1000001, "copy(MIN, MIN, MIN, MIN, MIN)", "copy(MAX, MAX, MAX, MAX, MAX)", "drop(MIN)", "drop(MAX)");
        e.each(x, -1000001, "feed(MIN)", "feed(MAX)", "taps(MIN)", "taps(MAX)", "front(MIN)", "front(MAX)", "off(MIN)", "off(MAX)");
        e.each(x, -1000001, "back(MIN)", "back(MAX)", "sit(MIN, MIN, MIN)", "sit(MAX, MAX, MAX)", "thing(MIN, MIN)", "thing(MAX, MAX)");
        e.each(x, -1000001, "seat(MIN, MIN)", "seat(MAX, MAX)", "list(MIN)", "stand(MIN)", "stand(MAX)", "next(MIN)", "next(MAX)");
        e.each(x, -1000001, "ahead(MIN, MIN)", "ahead(MAX, MAX)", "when(MIN, MIN)", "when(MAX, MAX)", "comes(MIN)", "comes(MAX)");
        e.each(x, -1000001, "order(MIN)", "pack(MIN)", "pack(MAX)", "clear(MIN, MIN, MIN)", "clear(MAX, MAX, MAX)");
        e.each(x, -1000001, "bring(MIN, MIN)", "bring(MAX, MAX)", "who(MIN, MIN, MIN, MIN, MIN)", "who(MAX, MAX, MAX, MAX, MAX)");
        e.each(x, -1000001, "wanted(MIN, MIN, MIN, MIN, MIN)", "wanted(MAX, MAX, MAX, MAX, MAX)", "wasOff(MIN, MIN, MIN)");
        e.each(x, -1000001, "wasOff(MAX, MAX, MAX)", "wander(MIN, MIN, MIN, MIN)", "wander(MAX, MAX, MAX, MAX)");
        e.each(x, -1000001, "drawn(MIN, MIN, MIN)", "drawn(MAX, MAX, MAX)", "image(MIN)", "image(MAX)", "restore(MIN)", "restore(MAX)");
        e.each(x, -1000001, "kind(MIN)", "kind(MAX)", "as(MIN, MIN)", "as(MAX, MAX)", "ask(MIN, MIN)", "ask(MAX, MAX)");
        e.each(x, -1000001, "count(MIN)", "count(MAX)");
        e.each(x, -1000000, "list(MAX)", "order(MAX)", "trace(MIN)", "trace(MAX)");
    }

    private void badAheadOfState() {
        e.sentence(TERMS, "the first of these that fits,");
        e.refuses(Stand::busy, Check.BAD, "sit(2, 10, 1)", "sit(2, -1, 1)", "sit(2, 0, 0)", "sit(2, 0, 21)");
        e.refuses(Stand::busy, Check.STATE, "sit(2, 9, 20)");
        e.refuses(Stand::busy, Check.BAD, "wanted(1, 2, 0, 0, 1)", "wanted(1, -1, 0, 0, 1)", "wanted(1, 0, 8, 0, 1)");
        e.refuses(Stand::busy, Check.BAD, "wanted(1, 0, -1, 0, 1)", "wanted(1, 0, 0, 0, 0)", "wanted(1, 0, 0, 0, 13)");
        e.refuses(Stand::busy, Check.STATE, "wanted(1, 0, 0, 0, 1)");
        e.refuses(Stand::empty, Check.BAD, "image(-1)", "image(2)", "restore(-1)", "restore(2)");
        e.refuses(Stand::empty, Check.STATE, "image(0)", "image(1)", "restore(0)", "restore(1)");
        // A seat or thing that is not there is BAD, also where there is no show.
        e.refuses(Stand::empty, Check.BAD, "front(0)", "off(0)", "back(0)", "sit(0, 0, 1)", "thing(0, 0)", "seat(0, 0)");
        e.refuses(Stand::empty, Check.BAD, "when(0, 1)", "comes(0)", "clear(0, 1, 0)", "who(0, 0, 0, 0, 1)");
        e.refuses(Stand::empty, Check.BAD, "wanted(0, 0, 0, 0, 1)", "kind(0)", "as(0, 0)", "ask(0, 0)");
    }

    private void stateAheadOfBad() {
        e.sentence(TERMS, "but as told:");
        e.refuses(Stand::empty, Check.STATE, "taps(0)", "taps(25)", "list(-1)", "stand(-1)", "stand(4)", "next(-1)", "next(3)");
        e.refuses(Stand::empty, Check.STATE, "ahead(-1, 0)", "ahead(61, 0)", "ahead(0, -1)", "ahead(0, 4)", "order(-3)");
        e.refuses(Stand::empty, Check.STATE, "pack(-1)", "pack(2)", "bring(0, 0)", "bring(31, 0)", "bring(1, -1)", "bring(1, 2)");
        e.refuses(Stand::empty, Check.STATE, "wasOff(-1, 0, 1)", "wasOff(8, 0, 1)", "wasOff(0, 0, 0)", "wasOff(0, 0, 13)");
        e.refuses(Stand::empty, Check.STATE, "wander(-1, 0, 0, 0)", "wander(1000, 0, 0, 0)", "wander(0, 31, 0, 0)");
        e.refuses(Stand::empty, Check.STATE, "wander(0, 0, 11, 0)", "wander(0, 0, 0, 2)", "drawn(61, 1, 0)", "drawn(0, 0, 0)");
        e.refuses(Stand::empty, Check.STATE, "drawn(0, 1, 2)", "match()", "lack()", "undo()");
    }

    private void aheadOfFull() {
        e.sentence(TERMS, "BAD (a number is not as told; there is no such thing), STATE (as told), FULL (as told),");
        e.refuses(Stand::fullTape, Check.BAD, "feed(-1)", "feed(256)");
        e.refuses(Stand::fullTape, Check.FULL, "feed(0)", "feed(255)");
        e.refuses(Stand::late, Check.BAD, "taps(0)", "taps(25)", "taps(-1)", "taps(MAX)");
        e.refuses(Stand::late, Check.FULL, "taps(16)", "taps(24)");
    }

    private void aheadOfFindings() {
        e.sentence(TERMS, "then FINDINGS,");
        e.refuses(Stand::busy, Check.BAD, "row(8, 0, -1)", "row(-1, 0, -1)", "row(0, 3, -1)", "row(0, -1, -1)");
        e.refuses(Stand::busy, Check.BAD, "set(8, -1, 0)", "copy(7, -1, 8, 0, 0)", "copy(8, 0, 7, 0, 0)", "copy(0, 9, -1, 9, -1)");
        e.refuses(Stand::busy, Check.BAD, "who(5, 0, 7, -1, 1)", "who(0, 3, 7, -1, 1)", "who(0, 0, 7, -1, 0)", "who(0, 0, 7, -1, 13)");
        e.refuses(Stand::busy, Check.BAD, "wanted(5, 0, 7, -1, 1)", "wanted(2, 2, 7, -1, 1)", "wanted(2, 0, 7, -1, 13)");
        e.refuses(Stand::busy, Check.BAD, "wasOff(7, -1, 0)", "wasOff(7, -1, 13)", "as(5, 5)", "as(0, 6)");
        e.refuses(Stand::busy, Check.STATE, "wanted(1, 0, 7, 0, 1)", "wanted(0, 1, 0, 3, 1)", "wanted(3, 0, 0, -1, 12)");
        e.refuses(Stand::empty, Check.STATE, "wasOff(7, 0, 1)", "wasOff(0, -1, 1)");
    }

    private void findingsInTime() {
        e.sentence(TERMS, "of several the first in time:");
        e.refuses(Stand::busy, Check.NULL, "set(7, -1, 0)", "copy(0, -1, 7, 0, -1)", "copy(7, 0, 0, 4, 1)", "copy(1, 9, 7, 0, 1)");
        e.refuses(Stand::busy, Check.STORE, "copy(0, -1, 1, 0, 1)", "copy(0, 0, 1, 9, 1)", "copy(1, 0, 2, 0, -1)");
        e.refuses(Stand::busy, Check.NULL, "who(0, 0, 7, -1, 1)", "wanted(2, 0, 7, -1, 1)", "wasOff(7, -1, 1)");
    }

    private void numbersOfFindings() {
        e.sentence(TERMS, "-1000010 less 1 NULL (a ROW that is missing),");
        RabbitList x = Stand.busy();
        e.due(x, "drop(7)", -1000011);
        e.due(x, "status()", 1);
        e.sentence(TERMS, "2 PLACE (no such place of a ROW),");
        e.due(x, "set(0, 3, 0)", -1000012);
        e.due(x, "status()", 2);
        e.sentence(TERMS, "3 KIND (a THING that is not that),");
        e.due(x, "as(0, 2)", -1000013);
        e.due(x, "status()", 3);
        e.sentence(TERMS, "4 SIZE (fewer than none),");
        e.due(x, "row(0, 0, -1)", -1000014);
        e.due(x, "status()", 4);
        e.due(x, "row(0, 0, 0)", 0);
        e.due(x, "status()", 0);
        e.sentence(TERMS, "5 STORE (ROWS of two LANES).");
        e.due(x, "copy(0, 0, 1, 0, 0)", -1000015);
        e.due(x, "status()", 5);
    }

    private void nothingChanges() {
        e.sentence(TERMS, "What is refused, or found, changes nothing but status().");
        e.refuses(Stand::busy, Check.BAD, "row(0, 0, 41)", "row(7, 3, 1)", "set(8, 0, 1)", "copy(0, 0, 8, 0, 1)", "drop(8)");
        e.refuses(Stand::busy, Check.BAD, "feed(256)", "taps(25)", "taps(0)", "front(5)", "off(5)", "back(5)", "sit(0, 10, 1)", "sit(5, 0, 1)");
        e.refuses(Stand::busy, Check.BAD, "thing(0, 5)", "seat(0, 3)", "list(-1)", "stand(4)", "next(3)", "ahead(61, 0)", "when(0, 0)");
        e.refuses(Stand::busy, Check.BAD, "comes(5)", "order(-3)", "pack(2)", "clear(2, 31, 0)", "bring(31, 0)", "who(0, 0, 0, 0, 13)");
        e.refuses(Stand::busy, Check.BAD, "wanted(2, 0, 0, 0, 13)", "wasOff(0, 0, 13)", "wander(1000, 0, 0, 0)", "drawn(61, 1, 0)");
        e.refuses(Stand::busy, Check.BAD, "image(2)", "restore(2)", "kind(5)", "as(5, 0)", "ask(5, 0)", "ask(0, 2)", "count(8)");
        e.refuses(Stand::busy, Check.STATE, "front(1)", "off(1)", "back(0)", "sit(2, 0, 1)", "wanted(1, 0, 0, 0, 1)", "restore(1)");
        e.refuses(Stand::latest, Check.FULL, "taps(1)");
        e.refuses(Stand::busy, Check.NULL, "set(7, 0, 1)", "copy(0, 0, 7, 0, 1)", "drop(7)", "who(0, 0, 7, 0, 1)", "wasOff(7, 0, 1)");
        e.refuses(Stand::busy, Check.PLACE, "set(0, 3, 1)", "copy(0, 1, 0, 0, 3)", "who(0, 0, 0, 3, 1)", "wanted(2, 0, 0, 2, 2)");
        e.refuses(Stand::busy, Check.KIND, "as(0, 5)");
        e.refuses(Stand::busy, Check.SIZE, "row(0, 2, -1)", "row(7, 2, -1)");
        e.refuses(Stand::busy, Check.STORE, "copy(0, 0, 1, 0, 2)", "copy(1, 0, 0, 0, 2)");
    }

    private void newObject() {
        e.sentence(Document.promise(1), "No SHOW.");
        RabbitList x = new RabbitList();
        e.each(x, 0, "count(0)", "count(1)", "count(2)", "count(3)", "count(4)", "count(5)", "count(6)", "count(7)");
        e.each(x, 0, "status()", "fault()");
        e.each(x, Check.STATE, "stand(0)", "list(0)", "next(0)", "match()", "lack()", "undo()", "restore(0)", "restore(1)");
        e.each(x, Check.NONE, "trace(0)");
    }
}
