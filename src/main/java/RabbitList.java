/** A rabbit with a list of things, and those in the seats who want them; ../shared/DOC.md tells what it promises. */
public final class RabbitList {
    public static final int NONE = -1000000, BAD = -1000001, STATE = -1000002, FULL = -1000003;

    private static final int FINDING_BASE = -1000010;
    private static final int FAULT_BASE = -1000100;
    private static final int MOST_TAPS_AT_ONCE = 24;
    private static final int LAST_TAP = 999;

    private final Rows rows;
    private final Tape tape;
    private final Stage stage;
    private final Stage draft;
    private final Acts acts;
    private final Stage firstImage;
    private final Stage secondImage;
    private final Seer seer;
    private final Planner planner;
    private final Asker asker;
    private int latestFinding;

    public RabbitList() {
        rows = new Rows();
        tape = new Tape();
        stage = new Stage();
        draft = new Stage();
        acts = new Acts();
        firstImage = new Stage();
        secondImage = new Stage();
        seer = new Seer();
        planner = new Planner();
        asker = new Asker();
        latestFinding = 0;
    }

    // ---- rows

    public int row(int row, int lane, int n) {
        if (!Rows.isRow(row) || !Rows.isLane(lane) || n > Rows.MOST_ITEMS) {
            return BAD;
        }
        if (n < 0) {
            return found(Rows.SIZE);
        }
        rows.make(row, lane, n);
        return foundNothing(n);
    }

    public int set(int row, int i, int v) {
        if (!Rows.isRow(row)) {
            return BAD;
        }
        int finding = rows.findingOfSpan(row, i, 1);
        if (finding != 0) {
            return found(finding);
        }
        return foundNothing(rows.put(row, i, v));
    }

    public int copy(int a, int i, int b, int j, int n) {
        if (!Rows.isRow(a) || !Rows.isRow(b)) {
            return BAD;
        }
        int finding = rows.findingOfMove(a, i, b, j, n);
        if (finding != 0) {
            return found(finding);
        }
        rows.move(a, i, b, j, n);
        return foundNothing(n);
    }

    public int drop(int row) {
        if (!Rows.isRow(row)) {
            return BAD;
        }
        if (rows.isMissing(row)) {
            return found(Rows.NULL);
        }
        return foundNothing(rows.lose(row));
    }

    // ---- what is told

    public int feed(int letter) {
        if (letter < 0 || letter > 255) {
            return BAD;
        }
        if (tape.isFull()) {
            return FULL;
        }
        return tape.append(letter);
    }

    public int show() {
        boolean read = tape.readInto(draft);
        tape.empty();
        if (!read) {
            return FAULT_BASE - tape.faultPlace();
        }
        stage.takeOver(draft);
        acts.forgetAll();
        return stage.things;
    }

    public int fault() {
        return tape.latestFault();
    }

    public int undo() {
        if (acts.kept() == 0) {
            return STATE;
        }
        acts.takeBack(stage);
        return acts.kept();
    }

    // ---- what is done

    public int taps(int n) {
        if (noShow()) {
            return STATE;
        }
        if (n < 1 || n > MOST_TAPS_AT_ONCE) {
            return BAD;
        }
        if (stage.tap + n > LAST_TAP) {
            return FULL;
        }
        for (int t = 0; t < n; t++) {
            acts.keep(stage);
            stage.tapOnce();
        }
        return stage.clapped;
    }

    public int front(int thing) {
        if (!stage.isThing(thing)) {
            return BAD;
        }
        int place = stage.placeOf(thing);
        if (place < 0) {
            return STATE;
        }
        acts.keep(stage);
        stage.putFirst(thing);
        return place;
    }

    public int off(int thing) {
        if (!stage.isThing(thing)) {
            return BAD;
        }
        int place = stage.placeOf(thing);
        if (place < 0) {
            return STATE;
        }
        acts.keep(stage);
        stage.takeOff(thing);
        return place;
    }

    public int back(int thing) {
        if (!stage.isThing(thing)) {
            return BAD;
        }
        if (stage.placeOf(thing) >= 0) {
            return STATE;
        }
        acts.keep(stage);
        stage.putLast(thing);
        return stage.onList;
    }

    public int sit(int seat, int label, int patience) {
        if (!stage.isSeat(seat) || label < 0 || label > Stage.LAST_LABEL) {
            return BAD;
        }
        if (patience < 1 || patience > Stage.MOST_TOLD_PATIENCE) {
            return BAD;
        }
        if (stage.how[seat] == Stage.WAITS) {
            return STATE;
        }
        acts.keep(stage);
        stage.takeAnew(seat, label, patience);
        return stage.seatsThat(Stage.WAITS);
    }

    public int thing(int thing, int what) {
        if (!stage.isThing(thing)) {
            return BAD;
        }
        switch (what) {
            case 0:
                return stage.labels[thing];
            case 1:
                return stage.weights[thing];
            case 2:
                return stage.joys[thing];
            case 3:
                return orNone(stage.placeOf(thing));
            case 4:
                return stage.wanting(stage.labels[thing]);
            default:
                return BAD;
        }
    }

    public int seat(int seat, int what) {
        if (!stage.isSeat(seat)) {
            return BAD;
        }
        switch (what) {
            case 0:
                return stage.wants[seat];
            case 1:
                return stage.patience[seat];
            case 2:
                return stage.how[seat];
            default:
                return BAD;
        }
    }

    public int list(int k) {
        if (noShow()) {
            return STATE;
        }
        if (k < 0) {
            return BAD;
        }
        return k < stage.onList ? stage.line[k] : NONE;
    }

    public int stand(int what) {
        if (noShow()) {
            return STATE;
        }
        return what < 0 || what > 3 ? BAD : stage.standing(what);
    }

    // ---- foretold

    public int next(int what) {
        if (noShow()) {
            return STATE;
        }
        return what < 0 || what > 2 ? BAD : seer.nextOne(stage, what);
    }

    public int ahead(int n, int what) {
        if (noShow()) {
            return STATE;
        }
        if (n < 0 || n > Seer.FARTHEST || what < 0 || what > 3) {
            return BAD;
        }
        return seer.standingBehind(stage, n, what);
    }

    public int when(int seat, int how) {
        if (!stage.isSeat(seat) || how < Stage.PLEASED || how > Stage.LEFT) {
            return BAD;
        }
        return orNone(seer.tapsUntil(stage, seat, how));
    }

    public int comes(int thing) {
        if (!stage.isThing(thing)) {
            return BAD;
        }
        return orNone(seer.tapOf(stage, thing));
    }

    public int order(int k) {
        if (noShow()) {
            return STATE;
        }
        if (k < -2) {
            return BAD;
        }
        planner.findBestOrder(stage);
        if (k == -1) {
            return planner.bestOrderClapped();
        }
        return k == -2 ? planner.bestOrderPleased() : orNone(planner.bestOrderThing(k));
    }

    public int pack(int what) {
        if (noShow()) {
            return STATE;
        }
        if (what < 0 || what > 1) {
            return BAD;
        }
        int packed = planner.bestPack(stage);
        return what == 0 ? packed : stage.sumOver(packed, stage.joys);
    }

    public int match() {
        return noShow() ? STATE : stage.couldBePleased();
    }

    public int clear(int seat, int n, int what) {
        if (!stage.isSeat(seat) || n < 1 || n > Planner.FARTHEST || what < 0 || what > 1) {
            return BAD;
        }
        int cleared = planner.fewestOff(stage, seat, n);
        if (cleared < 0) {
            return NONE;
        }
        return what == 0 ? Integer.bitCount(cleared) : cleared;
    }

    public int bring(int n, int what) {
        if (noShow()) {
            return STATE;
        }
        if (n < 1 || n > Planner.FARTHEST || what < 0 || what > 1) {
            return BAD;
        }
        int brought = planner.bestFirst(stage, n);
        return what == 0 ? brought : planner.clappedIfFirst(stage, brought, n);
    }

    public int lack() {
        return noShow() ? STATE : stage.lackedLabels();
    }

    public int who(int thing, int which, int row, int i, int n) {
        if (!stage.isThing(thing) || which < 0 || which > 2 || !canTell(row, n)) {
            return BAD;
        }
        int finding = rows.findingOfSpan(row, i, n);
        if (finding != 0) {
            return found(finding);
        }
        seer.hear(rows, row, i, n);
        return foundNothing(seer.shapesThatFit(stage, thing, which));
    }

    public int wanted(int seat, int which, int row, int i, int n) {
        if (!stage.isSeat(seat) || which < 0 || which > 1 || !canTell(row, n)) {
            return BAD;
        }
        if (stage.how[seat] != Stage.WAITS) {
            return STATE;
        }
        int finding = rows.findingOfSpan(row, i, n);
        if (finding != 0) {
            return found(finding);
        }
        seer.hear(rows, row, i, n);
        return foundNothing(which == 0 ? seer.wantsThatFit(stage, seat) : seer.patienceThatFits(stage, seat));
    }

    public int wasOff(int row, int i, int n) {
        if (noShow()) {
            return STATE;
        }
        if (!canTell(row, n)) {
            return BAD;
        }
        int finding = rows.findingOfSpan(row, i, n);
        if (finding != 0) {
            return found(finding);
        }
        seer.hear(rows, row, i, n);
        return foundNothing(seer.absencesThatFit(stage));
    }

    public long wander(int k, int n, int p, int what) {
        if (noShow()) {
            return STATE;
        }
        if (k < 0 || k > 999 || n < 0 || n > Planner.FARTHEST) {
            return BAD;
        }
        if (p < 0 || p > 10 || what < 0 || what > 1) {
            return BAD;
        }
        long above = seer.likelyCases(stage, k, n, p);
        long below = Seer.power(10, Integer.bitCount(stage.seatsThat(Stage.WAITS)));
        long shared = Seer.commonDivisor(above, below);
        long asked = what == 0 ? above : below;
        return shared > 0 ? asked / shared : asked;
    }

    public int drawn(int n, int seed, int what) {
        if (noShow()) {
            return STATE;
        }
        if (n < 0 || n > Seer.FARTHEST || seed < 1 || seed > 999999 || what < 0 || what > 1) {
            return BAD;
        }
        return seer.runByDraws(stage, n, seed, what);
    }

    public int image(int k) {
        if (k < 0 || k > 1) {
            return BAD;
        }
        if (noShow()) {
            return STATE;
        }
        imageOf(k).takeOver(stage);
        return 1;
    }

    public int restore(int k) {
        if (k < 0 || k > 1) {
            return BAD;
        }
        Stage kept = imageOf(k);
        if (kept.things == 0) {
            return STATE;
        }
        stage.takeOver(kept);
        acts.forgetAll();
        return 1;
    }

    // ---- asked

    public int kind(int one) {
        return stage.isThing(one) ? stage.kinds[one] : BAD;
    }

    public int as(int one, int kind) {
        if (!stage.isThing(one) || !Asker.isKind(kind)) {
            return BAD;
        }
        if (!Asker.isOneOf(stage.kinds[one], kind)) {
            return found(Rows.KIND);
        }
        return foundNothing(one);
    }

    public int ask(int one, int what) {
        if (!stage.isThing(one) || what < 0 || what > 1) {
            return BAD;
        }
        return asker.answer(stage, one, what);
    }

    public int trace(int i) {
        return orNone(asker.traced(i));
    }

    public int count(int what) {
        switch (what) {
            case 0:
                return rows.present();
            case 1:
                return stage.things;
            case 2:
                return stage.seats;
            case 3:
                return stage.tap;
            case 4:
                return stage.onList;
            case 5:
                return stage.clapped;
            case 6:
                return acts.kept();
            case 7:
                return tape.length();
            default:
                return BAD;
        }
    }

    public int status() {
        return latestFinding;
    }

    private int found(int finding) {
        latestFinding = finding;
        return FINDING_BASE - finding;
    }

    private int foundNothing(int answer) {
        latestFinding = 0;
        return answer;
    }

    private static int orNone(int answer) {
        return answer < 0 ? NONE : answer;
    }

    // A SHOW that was read has one THING at the least.
    private boolean noShow() {
        return stage.things == 0;
    }

    private Stage imageOf(int k) {
        return k == 0 ? firstImage : secondImage;
    }

    private static boolean canTell(int row, int n) {
        return Rows.isRow(row) && n >= 1 && n <= Seer.MOST_TOLD;
    }

    /** The ROWS, all made once, so that a call makes nothing new. */
    private static final class Rows {
        static final int NULL = 1, PLACE = 2, KIND = 3, SIZE = 4, STORE = 5;
        static final int MOST_ITEMS = 40;
        private static final int MOST_ROWS = 8;
        private static final int BYTES = 0, SHORTS = 1, INTS = 2;
        private static final int MISSING = -1;

        private final int[][] items;
        private final int[] lanes;
        private final int[] sizes;

        Rows() {
            items = new int[MOST_ROWS][MOST_ITEMS];
            lanes = new int[MOST_ROWS];
            sizes = new int[MOST_ROWS];
            for (int r = 0; r < MOST_ROWS; r++) {
                lanes[r] = MISSING;
            }
        }

        static boolean isRow(int row) {
            return row >= 0 && row < MOST_ROWS;
        }

        static boolean isLane(int lane) {
            return lane >= BYTES && lane <= INTS;
        }

        boolean isMissing(int row) {
            return lanes[row] == MISSING;
        }

        int present() {
            int there = 0;
            for (int r = 0; r < MOST_ROWS; r++) {
                there += isMissing(r) ? 0 : 1;
            }
            return there;
        }

        void make(int row, int lane, int n) {
            lanes[row] = lane;
            sizes[row] = n;
            for (int i = 0; i < MOST_ITEMS; i++) {
                items[row][i] = 0;
            }
        }

        int lose(int row) {
            int had = sizes[row];
            lanes[row] = MISSING;
            sizes[row] = 0;
            return had;
        }

        int put(int row, int i, int v) {
            int kept = v;
            if (lanes[row] == BYTES) {
                kept = (byte) v;
            } else if (lanes[row] == SHORTS) {
                kept = (short) v;
            }
            items[row][i] = kept;
            return kept;
        }

        int item(int row, int i) {
            return isRow(row) && i >= 0 && i < MOST_ITEMS ? items[row][i] : 0;
        }

        int findingOfSpan(int row, int i, int n) {
            if (isMissing(row)) {
                return NULL;
            }
            return isSpan(row, i, n) ? 0 : PLACE;
        }

        int findingOfMove(int a, int i, int b, int j, int n) {
            if (isMissing(a) || isMissing(b)) {
                return NULL;
            }
            if (lanes[a] != lanes[b]) {
                return STORE;
            }
            return isSpan(a, i, n) && isSpan(b, j, n) ? 0 : PLACE;
        }

        void move(int a, int i, int b, int j, int n) {
            System.arraycopy(items[a], i, items[b], j, n);
        }

        // The end is told by a difference: a sum of i and n could wrap around.
        private boolean isSpan(int row, int i, int n) {
            return i >= 0 && n >= 0 && i <= sizes[row] && n <= sizes[row] - i;
        }
    }

    /** THE TAPE, and the reading of it. */
    private static final class Tape {
        private static final int MOST_BYTES = 120;
        private static final int MOST_FIGURES = 2;
        private static final int MISPLACED = 1, UNFIT = 2, TOO_MANY = 3;
        private static final int WRONG = -1;
        private static final String SORTS = "pbflh";

        private final int[] bytes;
        private int size;
        private int at;
        private int fault;
        private int place;

        Tape() {
            bytes = new int[MOST_BYTES];
        }

        boolean isFull() {
            return size >= MOST_BYTES;
        }

        int append(int letter) {
            if (size < MOST_BYTES) {
                bytes[size] = letter;
                size++;
            }
            return size;
        }

        void empty() {
            size = 0;
        }

        int length() {
            return size;
        }

        int latestFault() {
            return fault;
        }

        int faultPlace() {
            return place;
        }

        boolean readInto(Stage draft) {
            at = 0;
            draft.wipe();
            if (!readLaw(draft) || !readThing(draft)) {
                return false;
            }
            for (int clause = 0; clause < MOST_BYTES && at < size; clause++) {
                boolean read = here() == 'z' ? readSeat(draft) : readThing(draft);
                if (!read) {
                    return false;
                }
            }
            return true;
        }

        private boolean readLaw(Stage draft) {
            if (here() != 'r') {
                return flawed(MISPLACED);
            }
            at++;
            draft.room = readNumber(0, 60, ',');
            if (draft.room == WRONG) {
                return false;
            }
            draft.extra = readNumber(0, 9, ';');
            return draft.extra != WRONG;
        }

        private boolean readThing(Stage draft) {
            int sort = sortHere();
            if (sort < 0 || draft.seats > 0) {
                return flawed(MISPLACED);
            }
            if (draft.things >= Stage.MOST) {
                return flawed(TOO_MANY);
            }
            at++;
            int label = readNumber(0, Stage.LAST_LABEL, ',');
            int weight = label == WRONG ? WRONG : readNumber(1, 20, ',');
            int joy = weight == WRONG ? WRONG : readNumber(0, 9, ';');
            if (joy == WRONG) {
                return false;
            }
            draft.addThing(sort + 1, label, weight, joy);
            return true;
        }

        private boolean readSeat(Stage draft) {
            if (draft.seats >= Stage.MOST) {
                return flawed(TOO_MANY);
            }
            at++;
            int label = readNumber(0, Stage.LAST_LABEL, ',');
            int patience = label == WRONG ? WRONG : readNumber(1, Stage.MOST_TOLD_PATIENCE, ';');
            if (patience == WRONG) {
                return false;
            }
            draft.addSeat(label, patience);
            return true;
        }

        private int readNumber(int least, int most, char sign) {
            int figures = 0;
            int number = 0;
            while (figures <= MOST_FIGURES && isFigure(at + figures)) {
                number = number * 10 + bytes[at + figures] - '0';
                figures++;
            }
            if (figures == 0 || figures > MOST_FIGURES) {
                flawed(MISPLACED);
                return WRONG;
            }
            if (number < least || number > most) {
                flawed(UNFIT);
                return WRONG;
            }
            at += figures;
            if (here() != sign) {
                flawed(MISPLACED);
                return WRONG;
            }
            at++;
            return number;
        }

        private boolean isFigure(int i) {
            return i >= 0 && i < size && bytes[i] >= '0' && bytes[i] <= '9';
        }

        private int here() {
            return at < size ? bytes[at] : WRONG;
        }

        private int sortHere() {
            return at < size ? SORTS.indexOf((char) bytes[at]) : WRONG;
        }

        private boolean flawed(int number) {
            fault = number;
            place = at;
            return false;
        }
    }

    /** A SHOW as it stands, with all that a TAP does to it. */
    private static final class Stage {
        static final int MOST = 6;
        static final int LAST_LABEL = 9;
        static final int MOST_TOLD_PATIENCE = 20;
        static final int WAITS = 0, PLEASED = 1, LEFT = 2, CLAPPED = 3;
        private static final int MOST_PATIENCE = 99;

        int room;
        int extra;
        int things;
        int seats;
        int onList;
        int tap;
        int clapped;
        int handed;
        int gladdened;
        int applause;
        final int[] kinds;
        final int[] labels;
        final int[] weights;
        final int[] joys;
        final int[] wants;
        final int[] patience;
        final int[] how;
        final int[] line;

        Stage() {
            kinds = new int[MOST];
            labels = new int[MOST];
            weights = new int[MOST];
            joys = new int[MOST];
            wants = new int[MOST];
            patience = new int[MOST];
            how = new int[MOST];
            line = new int[MOST];
        }

        void takeOver(Stage other) {
            room = other.room;
            extra = other.extra;
            things = other.things;
            seats = other.seats;
            onList = other.onList;
            tap = other.tap;
            clapped = other.clapped;
            System.arraycopy(other.kinds, 0, kinds, 0, MOST);
            System.arraycopy(other.labels, 0, labels, 0, MOST);
            System.arraycopy(other.weights, 0, weights, 0, MOST);
            System.arraycopy(other.joys, 0, joys, 0, MOST);
            System.arraycopy(other.wants, 0, wants, 0, MOST);
            System.arraycopy(other.patience, 0, patience, 0, MOST);
            System.arraycopy(other.how, 0, how, 0, MOST);
            System.arraycopy(other.line, 0, line, 0, MOST);
        }

        void wipe() {
            room = 0;
            extra = 0;
            things = 0;
            seats = 0;
            onList = 0;
            tap = 0;
            clapped = 0;
        }

        void addThing(int kind, int label, int weight, int joy) {
            if (things >= MOST) {
                return;
            }
            kinds[things] = kind;
            labels[things] = label;
            weights[things] = weight;
            joys[things] = joy;
            putLast(things);
            things++;
        }

        void addSeat(int label, int patient) {
            if (seats >= MOST) {
                return;
            }
            takeAnew(seats, label, patient);
            seats++;
        }

        boolean isThing(int thing) {
            return thing >= 0 && thing < things;
        }

        boolean isSeat(int seat) {
            return seat >= 0 && seat < seats;
        }

        int placeOf(int thing) {
            for (int i = 0; i < onList; i++) {
                if (line[i] == thing) {
                    return i;
                }
            }
            return -1;
        }

        void takeOff(int thing) {
            int stay = 0;
            for (int i = 0; i < onList; i++) {
                if (line[i] != thing) {
                    line[stay] = line[i];
                    stay++;
                }
            }
            onList = stay;
        }

        void putLast(int thing) {
            if (onList < MOST) {
                line[onList] = thing;
                onList++;
            }
        }

        // Brings back one that is off THE LIST, too.
        void putFirst(int thing) {
            takeOff(thing);
            if (onList >= MOST) {
                return;
            }
            for (int i = onList; i > 0; i--) {
                line[i] = line[i - 1];
            }
            line[0] = thing;
            onList++;
        }

        void takeAnew(int seat, int label, int patient) {
            wants[seat] = label;
            patience[seat] = patient;
            how[seat] = WAITS;
        }

        int wanting(int label) {
            int many = 0;
            for (int s = 0; s < seats; s++) {
                if (how[s] == WAITS && wants[s] == label) {
                    many++;
                }
            }
            return many;
        }

        int seatsThat(int state) {
            int bits = 0;
            for (int s = 0; s < seats; s++) {
                if (how[s] == state) {
                    bits |= 1 << s;
                }
            }
            return bits;
        }

        int standing(int what) {
            return what == CLAPPED ? clapped : seatsThat(what);
        }

        void tapOnce() {
            int thing = chosen();
            if (isThing(thing)) {
                handUp(thing);
            } else {
                handed = NONE;
                gladdened = 0;
                applause = 0;
                passTime();
            }
        }

        private int chosen() {
            int best = NONE;
            int most = -1;
            for (int i = 0; i < onList; i++) {
                int many = wanting(labels[line[i]]);
                if (many > most) {
                    most = many;
                    best = line[i];
                }
            }
            return best;
        }

        void handUp(int thing) {
            handed = thing;
            gladdened = 0;
            applause = 0;
            takeOff(thing);
            int kind = kinds[thing];
            if (kind == Asker.HELD) {
                putLast(thing);
                lendPatience();
            } else if (kind == Asker.LIVE && seatsThat(PLEASED) == 0) {
                putLast(thing);
            } else {
                gladden(thing);
            }
            clapped += applause;
            passTime();
        }

        private void gladden(int thing) {
            int each = kinds[thing] == Asker.BIG ? 2 * joys[thing] : joys[thing];
            for (int s = 0; s < seats; s++) {
                if (how[s] == WAITS && wants[s] == labels[thing]) {
                    how[s] = PLEASED;
                    gladdened |= 1 << s;
                    applause += each;
                    if (kinds[thing] != Asker.FLAGS) {
                        return;
                    }
                }
            }
        }

        private void lendPatience() {
            for (int s = 0; s < seats; s++) {
                if (how[s] == WAITS) {
                    patience[s] = Math.min(MOST_PATIENCE, patience[s] + extra);
                }
            }
        }

        private void passTime() {
            for (int s = 0; s < seats; s++) {
                if (how[s] == WAITS) {
                    patience[s]--;
                    how[s] = patience[s] > 0 ? WAITS : LEFT;
                }
            }
            tap++;
        }

        // Nothing that is told of SEATS or CLAPPED changes once nobody WAITS.
        void tapWhileOneWaits(int n) {
            for (int t = 0; t < n && seatsThat(WAITS) != 0; t++) {
                tapOnce();
            }
        }

        int sumOver(int set, int[] values) {
            int sum = 0;
            for (int t = 0; t < things && t < values.length; t++) {
                if ((set >> t & 1) == 1) {
                    sum += values[t];
                }
            }
            return sum;
        }

        int couldBePleased() {
            int pleased = 0;
            for (int label = 0; label <= LAST_LABEL; label++) {
                int many = wanting(label);
                if (listed(label, Asker.FLAGS) == 0) {
                    many = Math.min(many, givenOf(label));
                }
                pleased += many;
            }
            return pleased;
        }

        int lackedLabels() {
            int lacked = 0;
            for (int label = 0; label <= LAST_LABEL; label++) {
                if (wanting(label) > 0 && givenOf(label) == 0) {
                    lacked |= 1 << label;
                }
            }
            return lacked;
        }

        private int givenOf(int label) {
            int given = 0;
            for (int kind = Asker.PLAIN; kind < Asker.HELD; kind++) {
                given += listed(label, kind);
            }
            return given;
        }

        private int listed(int label, int kind) {
            int many = 0;
            for (int i = 0; i < onList; i++) {
                if (labels[line[i]] == label && kinds[line[i]] == kind) {
                    many++;
                }
            }
            return many;
        }
    }

    /** The ACTS that can be undone: the SHOW as it stood ahead of each, in a ring. */
    private static final class Acts {
        private static final int MOST_ACTS = 24;

        private final Stage[] ring;
        private int free;
        private int size;

        Acts() {
            ring = new Stage[MOST_ACTS];
            for (int i = 0; i < MOST_ACTS; i++) {
                ring[i] = new Stage();
            }
        }

        int kept() {
            return size;
        }

        void forgetAll() {
            size = 0;
        }

        void keep(Stage stage) {
            ring[free].takeOver(stage);
            free = (free + 1) % MOST_ACTS;
            size = Math.min(MOST_ACTS, size + 1);
        }

        void takeBack(Stage stage) {
            if (size == 0) {
                return;
            }
            free = (free + MOST_ACTS - 1) % MOST_ACTS;
            size--;
            stage.takeOver(ring[free]);
        }
    }

    /** Foretells by tapping on a copy of the SHOW. */
    private static final class Seer {
        static final int FARTHEST = 60;
        static final int MOST_TOLD = 12;
        private static final int AS_IT_IS = 64;
        private static final long MULTIPLIER = 16807, MODULUS = 2147483647;
        // Far above what Euclid's way needs for two numbers of which one is a million at most.
        private static final int MOST_STEPS = 1000;

        private final Stage trial;
        private final int[] told;
        private int toldTaps;

        Seer() {
            trial = new Stage();
            told = new int[MOST_TOLD];
        }

        int nextOne(Stage stage, int what) {
            trial.takeOver(stage);
            trial.tapOnce();
            if (what == 0) {
                return trial.handed;
            }
            return what == 1 ? trial.gladdened : trial.applause;
        }

        int standingBehind(Stage stage, int n, int what) {
            trial.takeOver(stage);
            trial.tapWhileOneWaits(n);
            return trial.standing(what);
        }

        int tapsUntil(Stage stage, int seat, int how) {
            trial.takeOver(stage);
            for (int t = 0; t <= FARTHEST; t++) {
                if (trial.how[seat] == how) {
                    return t;
                }
                trial.tapOnce();
            }
            return -1;
        }

        int tapOf(Stage stage, int thing) {
            trial.takeOver(stage);
            for (int t = 1; t <= FARTHEST; t++) {
                trial.tapOnce();
                if (trial.handed == thing) {
                    return t;
                }
            }
            return -1;
        }

        void hear(Rows rows, int row, int i, int n) {
            toldTaps = Math.min(n, MOST_TOLD);
            for (int t = 0; t < toldTaps; t++) {
                told[t] = rows.item(row, i + t);
            }
        }

        private boolean trialClapsAsTold() {
            for (int t = 0; t < toldTaps; t++) {
                trial.tapOnce();
                if (trial.clapped != told[t]) {
                    return false;
                }
            }
            return true;
        }

        int shapesThatFit(Stage stage, int thing, int which) {
            int least = which == 0 ? Asker.PLAIN : 0;
            int most = which == 0 ? Asker.HELD : 9;
            int bits = 0;
            for (int value = least; value <= most; value++) {
                trial.takeOver(stage);
                reshape(thing, which, value);
                if (trialClapsAsTold()) {
                    bits |= 1 << value;
                }
            }
            return bits;
        }

        private void reshape(int thing, int which, int value) {
            if (which == 0) {
                trial.kinds[thing] = value;
            } else if (which == 1) {
                trial.labels[thing] = value;
            } else {
                trial.joys[thing] = value;
            }
        }

        int wantsThatFit(Stage stage, int seat) {
            int bits = 0;
            for (int label = 0; label <= Stage.LAST_LABEL; label++) {
                trial.takeOver(stage);
                trial.wants[seat] = label;
                if (trialClapsAsTold()) {
                    bits |= 1 << label;
                }
            }
            return bits;
        }

        int patienceThatFits(Stage stage, int seat) {
            int bits = 0;
            for (int patience = 1; patience <= Stage.MOST_TOLD_PATIENCE; patience++) {
                trial.takeOver(stage);
                trial.patience[seat] = patience;
                if (trialClapsAsTold()) {
                    bits |= 1 << patience;
                }
            }
            return bits;
        }

        int absencesThatFit(Stage stage) {
            trial.takeOver(stage);
            int bits = trialClapsAsTold() ? AS_IT_IS : 0;
            for (int i = 0; i < stage.onList; i++) {
                trial.takeOver(stage);
                trial.takeOff(stage.line[i]);
                if (trialClapsAsTold()) {
                    bits |= 1 << stage.line[i];
                }
            }
            return bits;
        }

        // Of 10 cases for each who WAITS, multiplied: whole numbers lose nothing.
        long likelyCases(Stage stage, int k, int n, int p) {
            int waiting = stage.seatsThat(Stage.WAITS);
            long cases = 0;
            for (int gone = 0; gone <= waiting; gone++) {
                if ((gone & ~waiting) == 0) {
                    int leave = Integer.bitCount(gone);
                    int stay = Integer.bitCount(waiting) - leave;
                    long weight = power(p, leave) * power(10 - p, stay);
                    if (weight > 0 && clappedWithout(stage, gone, n) >= k) {
                        cases += weight;
                    }
                }
            }
            return cases;
        }

        private int clappedWithout(Stage stage, int gone, int n) {
            trial.takeOver(stage);
            for (int s = 0; s < trial.seats; s++) {
                if ((gone >> s & 1) == 1) {
                    trial.how[s] = Stage.LEFT;
                }
            }
            trial.tapWhileOneWaits(n);
            return trial.clapped;
        }

        static long power(int base, int exponent) {
            long product = 1;
            for (int i = 0; i < exponent; i++) {
                product *= base;
            }
            return product;
        }

        static long commonDivisor(long a, long b) {
            long greater = a;
            long lesser = b;
            for (int step = 0; step < MOST_STEPS && lesser > 0; step++) {
                long rest = greater % lesser;
                greater = lesser;
                lesser = rest;
            }
            return greater;
        }

        int runByDraws(Stage stage, int n, int seed, int what) {
            trial.takeOver(stage);
            long x = seed;
            int pleased = 0;
            for (int t = 0; t < n; t++) {
                x = x * MULTIPLIER % MODULUS;
                arrangeByDraw(x);
                trial.tapOnce();
                pleased += Integer.bitCount(trial.gladdened);
            }
            return what == 0 ? trial.clapped : pleased;
        }

        private void arrangeByDraw(long x) {
            if (trial.seats > 0) {
                int seat = (int) (x % trial.seats);
                if (trial.isSeat(seat) && trial.how[seat] != Stage.WAITS) {
                    trial.takeAnew(seat, (int) (x % 10), (int) (x % 5) + 1);
                }
            }
            if (trial.onList == 0 && trial.things > 0) {
                trial.putLast((int) (x % trial.things));
            }
        }
    }

    /** Looks for the best of all orders, sets and things. */
    private static final class Planner {
        static final int FARTHEST = 30;
        private static final int SETS = 1 << Stage.MOST;

        private final Stage trial;
        private final Stage[] levels;
        private final int[] path;
        private final int[] best;
        private int bestLength;
        private int bestClapped;
        private int bestPleased;

        Planner() {
            trial = new Stage();
            levels = new Stage[Stage.MOST + 1];
            for (int d = 0; d <= Stage.MOST; d++) {
                levels[d] = new Stage();
            }
            path = new int[Stage.MOST];
            best = new int[Stage.MOST];
        }

        void findBestOrder(Stage stage) {
            int listed = 0;
            for (int i = 0; i < stage.onList; i++) {
                listed |= 1 << stage.line[i];
            }
            bestClapped = -1;
            bestLength = stage.onList;
            levels[0].takeOver(stage);
            tryOrders(listed, 0);
        }

        // Goes by rising numbers and keeps only what is better, so the first of equals stays.
        private void tryOrders(int left, int depth) {
            if (left == 0 || depth >= Stage.MOST) {
                keepIfBetter(levels[depth]);
                return;
            }
            Stage next = levels[depth + 1];
            for (int thing = 0; thing < Stage.MOST; thing++) {
                if ((left >> thing & 1) == 1) {
                    next.takeOver(levels[depth]);
                    next.handUp(thing);
                    path[depth] = thing;
                    tryOrders(left & ~(1 << thing), depth + 1);
                }
            }
        }

        private void keepIfBetter(Stage end) {
            if (end.clapped <= bestClapped) {
                return;
            }
            bestClapped = end.clapped;
            bestPleased = end.seatsThat(Stage.PLEASED);
            System.arraycopy(path, 0, best, 0, Stage.MOST);
        }

        int bestOrderClapped() {
            return bestClapped;
        }

        int bestOrderPleased() {
            return bestPleased;
        }

        int bestOrderThing(int k) {
            return k >= 0 && k < bestLength && k < Stage.MOST ? best[k] : -1;
        }

        int bestPack(Stage stage) {
            int packed = 0;
            for (int set = 1; set < 1 << stage.things; set++) {
                if (stage.sumOver(set, stage.weights) <= stage.room && isBetterPack(stage, set, packed)) {
                    packed = set;
                }
            }
            return packed;
        }

        private static boolean isBetterPack(Stage stage, int set, int packed) {
            int joy = stage.sumOver(set, stage.joys);
            int packedJoy = stage.sumOver(packed, stage.joys);
            if (joy != packedJoy) {
                return joy > packedJoy;
            }
            return Integer.bitCount(set) < Integer.bitCount(packed);
        }

        int fewestOff(Stage stage, int seat, int n) {
            int fewest = -1;
            for (int set = 0; set < SETS; set++) {
                boolean fewer = fewest < 0 || Integer.bitCount(set) < Integer.bitCount(fewest);
                if (fewer && isListed(stage, set) && pleasesWithout(stage, set, seat, n)) {
                    fewest = set;
                }
            }
            return fewest;
        }

        private static boolean isListed(Stage stage, int set) {
            for (int thing = 0; thing < Stage.MOST; thing++) {
                if ((set >> thing & 1) == 1 && stage.placeOf(thing) < 0) {
                    return false;
                }
            }
            return true;
        }

        private boolean pleasesWithout(Stage stage, int set, int seat, int n) {
            trial.takeOver(stage);
            for (int thing = 0; thing < Stage.MOST; thing++) {
                if ((set >> thing & 1) == 1) {
                    trial.takeOff(thing);
                }
            }
            trial.tapWhileOneWaits(n);
            return trial.how[seat] == Stage.PLEASED;
        }

        int bestFirst(Stage stage, int n) {
            int first = 0;
            int most = -1;
            for (int thing = 0; thing < stage.things; thing++) {
                int clapped = clappedIfFirst(stage, thing, n);
                if (clapped > most) {
                    most = clapped;
                    first = thing;
                }
            }
            return first;
        }

        int clappedIfFirst(Stage stage, int thing, int n) {
            trial.takeOver(stage);
            trial.putFirst(thing);
            trial.tapWhileOneWaits(n);
            return trial.clapped;
        }
    }

    /** The KINDS of THINGS, and the BODIES by which THINGS are asked. */
    private static final class Asker {
        static final int PLAIN = 1, BIG = 2, FLAGS = 3, LIVE = 4, HELD = 5;
        private static final int MOST_TRACED = 16;
        private static final int DEEPEST = 16;
        private static final int SIZE = 0, MARK = 1;
        // By KIND: the next wider KIND, and the BODY that begins for SIZE and for MARK.
        private static final int[] WIDER = {-1, 0, 1, 1, 0, 4};
        private static final int[] SIZE_BODIES = {10, 11, 12, 11, 13, 14};
        private static final int[] MARK_BODIES = {20, 21, 24, 22, 23, 23};

        private final int[] traces;
        private int tracedBodies;

        Asker() {
            traces = new int[MOST_TRACED];
        }

        static boolean isKind(int kind) {
            return kind >= 0 && kind < WIDER.length;
        }

        static boolean isOneOf(int kind, int wider) {
            int at = kind;
            for (int step = 0; step < WIDER.length && isKind(at); step++) {
                if (at == wider) {
                    return true;
                }
                at = WIDER[at];
            }
            return false;
        }

        int traced(int i) {
            return i >= 0 && i < tracedBodies ? traces[i] : -1;
        }

        int answer(Stage stage, int thing, int what) {
            tracedBodies = 0;
            return askAnew(stage, thing, what, 0);
        }

        private int askAnew(Stage stage, int thing, int what, int depth) {
            int kind = stage.kinds[thing];
            if (!isKind(kind)) {
                return 0;
            }
            return begin(stage, thing, what == SIZE ? SIZE_BODIES[kind] : MARK_BODIES[kind], depth);
        }

        private int begin(Stage stage, int thing, int body, int depth) {
            if (depth > DEEPEST) {
                return 0;
            }
            leaveTrace(body);
            int deeper = depth + 1;
            switch (body) {
                case 10:
                    return stage.weights[thing];
                case 11:
                    return begin(stage, thing, 10, deeper) + askAnew(stage, thing, MARK, deeper);
                case 12:
                    return -begin(stage, thing, 11, deeper);
                case 13:
                    return begin(stage, thing, 10, deeper) - 100;
                case 14:
                    return 2 * begin(stage, thing, 13, deeper);
                case 20:
                    return thing;
                case 21:
                    return begin(stage, thing, 20, deeper) + stage.wanting(stage.labels[thing]);
                case 22:
                    return begin(stage, thing, 21, deeper) - 1000;
                case 23:
                    return begin(stage, thing, 20, deeper) - askAnew(stage, thing, SIZE, deeper);
                case 24:
                    return 2 * begin(stage, thing, 21, deeper);
                default:
                    return 0;
            }
        }

        private void leaveTrace(int body) {
            if (tracedBodies < MOST_TRACED) {
                traces[tracedBodies] = body;
                tracedBodies++;
            }
        }
    }
}
