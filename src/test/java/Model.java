import java.math.BigInteger;
import java.util.ArrayDeque;
import java.util.ArrayList;
import java.util.Collections;
import java.util.Comparator;
import java.util.Deque;
import java.util.List;
import java.util.function.Predicate;
import java.util.regex.Matcher;
import java.util.regex.Pattern;

/** The document written down a second time, as plainly as can be, to be compared with the class. */
final class Model {
    private static final int NONE = -1000000, BAD = -1000001, STATE = -1000002, FULL = -1000003;
    private static final String SORTS = "?pbflh";

    /** One in a seat. */
    private static final class Sitter {
        int label;
        int patience;
        String how = "waits";

        Sitter(int label, int patience) {
            this.label = label;
            this.patience = patience;
        }

        boolean waits() {
            return how.equals("waits");
        }
    }

    private static final class Thing {
        final int number;
        char sort;
        int label;
        int weight;
        int joy;

        Thing(int number) {
            this.number = number;
        }
    }

    private static final class Show {
        int room;
        int extra;
        int tap;
        int clapped;
        final List<Thing> things = new ArrayList<>();
        final List<Sitter> seats = new ArrayList<>();
        final List<Integer> list = new ArrayList<>();

        int came;
        int clapNow;
        final List<Integer> gladNow = new ArrayList<>();

        Show copy() {
            Show s = new Show();
            s.room = room;
            s.extra = extra;
            s.tap = tap;
            s.clapped = clapped;
            for (Thing t : things) {
                Thing u = new Thing(t.number);
                u.sort = t.sort;
                u.label = t.label;
                u.weight = t.weight;
                u.joy = t.joy;
                s.things.add(u);
            }
            for (Sitter p : seats) {
                Sitter q = new Sitter(p.label, p.patience);
                q.how = p.how;
                s.seats.add(q);
            }
            s.list.addAll(list);
            return s;
        }

        List<Integer> wanters(int label) {
            List<Integer> found = new ArrayList<>();
            for (int i = 0; i < seats.size(); i++) {
                if (seats.get(i).waits() && seats.get(i).label == label) {
                    found.add(i);
                }
            }
            return found;
        }

        int bits(String how) {
            int bits = 0;
            for (int i = 0; i < seats.size(); i++) {
                bits += seats.get(i).how.equals(how) ? 1 << i : 0;
            }
            return bits;
        }

        void tap() {
            int best = NONE;
            for (int t : list) {
                if (best == NONE || wanters(things.get(t).label).size() > wanters(things.get(best).label).size()) {
                    best = t;
                }
            }
            hand(best);
        }

        void hand(int number) {
            came = number;
            clapNow = 0;
            gladNow.clear();
            if (number != NONE) {
                Thing t = things.get(number);
                list.remove(Integer.valueOf(number));
                boolean stays = t.sort == 'h' || t.sort == 'l' && bits("pleased") == 0;
                if (stays) {
                    list.add(number);
                }
                if (t.sort == 'h') {
                    for (Sitter p : seats) {
                        p.patience = p.waits() ? Math.min(99, p.patience + extra) : p.patience;
                    }
                }
                List<Integer> glad = stays ? List.of() : wanters(t.label);
                if (t.sort != 'f' && glad.size() > 1) {
                    glad = glad.subList(0, 1);
                }
                gladNow.addAll(glad);
                for (int i : glad) {
                    seats.get(i).how = "pleased";
                    clapNow += t.sort == 'b' ? t.joy + t.joy : t.joy;
                }
            }
            clapped += clapNow;
            for (Sitter p : seats) {
                if (p.waits() && --p.patience == 0) {
                    p.how = "left";
                }
            }
            tap++;
        }

        Show taps(int n) {
            for (int i = 0; i < n; i++) {
                tap();
            }
            return this;
        }
    }

    private final int[][] rows = new int[8][];
    private final int[] lanes = new int[8];
    private final StringBuilder tape = new StringBuilder();
    private final Deque<Show> acts = new ArrayDeque<>();
    private final Show[] images = new Show[2];
    private final List<Integer> trace = new ArrayList<>();
    private Show show;
    private int fault;
    private int status;

    private static boolean in(int v, int low, int high) {
        return v >= low && v <= high;
    }

    private boolean isThing(int t) {
        return show != null && in(t, 0, show.things.size() - 1);
    }

    private boolean isSeat(int s) {
        return show != null && in(s, 0, show.seats.size() - 1);
    }

    private int find(int number) {
        status = number;
        return -1000010 - number;
    }

    private int well(int answer) {
        status = 0;
        return answer;
    }

    private void act() {
        acts.addLast(show.copy());
        if (acts.size() > 24) {
            acts.removeFirst();
        }
    }

    long call(String name, int... a) {
        switch (name) {
            case "row":
                if (!in(a[0], 0, 7) || !in(a[1], 0, 2) || a[2] > 40) {
                    return BAD;
                }
                if (a[2] < 0) {
                    return find(4);
                }
                rows[a[0]] = new int[a[2]];
                lanes[a[0]] = a[1];
                return well(a[2]);
            case "set":
                return set(a[0], a[1], a[2]);
            case "copy":
                return copy(a[0], a[1], a[2], a[3], a[4]);
            case "drop":
                if (!in(a[0], 0, 7)) {
                    return BAD;
                }
                if (rows[a[0]] == null) {
                    return find(1);
                }
                int had = rows[a[0]].length;
                rows[a[0]] = null;
                return well(had);
            case "feed":
                if (!in(a[0], 0, 255)) {
                    return BAD;
                }
                if (tape.length() == 120) {
                    return FULL;
                }
                return tape.append((char) a[0]).length();
            case "show":
                return read();
            case "fault":
                return fault;
            case "undo":
                if (acts.isEmpty()) {
                    return STATE;
                }
                show = acts.removeLast();
                return acts.size();
            case "image":
                if (!in(a[0], 0, 1)) {
                    return BAD;
                }
                if (show == null) {
                    return STATE;
                }
                images[a[0]] = show.copy();
                return 1;
            case "restore":
                if (!in(a[0], 0, 1)) {
                    return BAD;
                }
                if (images[a[0]] == null) {
                    return STATE;
                }
                show = images[a[0]].copy();
                acts.clear();
                return 1;
            case "trace":
                return in(a[0], 0, trace.size() - 1) ? trace.get(a[0]) : NONE;
            case "status":
                return status;
            case "count":
                return count(a[0]);
            case "thing": case "front": case "off": case "back": case "comes": case "kind": case "as": case "ask": case "who":
                return isThing(a[0]) ? ofThing(name, a) : BAD;
            case "seat": case "sit": case "when": case "clear": case "wanted":
                return isSeat(a[0]) ? ofSeat(name, a) : BAD;
            default:
                return show == null ? STATE : ofShow(name, a);
        }
    }

    private long set(int r, int i, int v) {
        if (!in(r, 0, 7)) {
            return BAD;
        }
        if (rows[r] == null) {
            return find(1);
        }
        if (!in(i, 0, rows[r].length - 1)) {
            return find(2);
        }
        int shift = new int[] {24, 16, 0}[lanes[r]];
        rows[r][i] = v << shift >> shift;
        return well(rows[r][i]);
    }

    private long copy(int a, int i, int b, int j, int n) {
        if (!in(a, 0, 7) || !in(b, 0, 7)) {
            return BAD;
        }
        if (rows[a] == null || rows[b] == null) {
            return find(1);
        }
        if (lanes[a] != lanes[b]) {
            return find(5);
        }
        if (i < 0 || j < 0 || n < 0 || (long) i + n > rows[a].length || (long) j + n > rows[b].length) {
            return find(2);
        }
        int[] were = rows[a].clone();
        for (int k = 0; k < n; k++) {
            rows[b][j + k] = were[i + k];
        }
        return well(n);
    }

    private long count(int what) {
        switch (what) {
            case 0:
                int there = 0;
                for (int[] row : rows) {
                    there += row == null ? 0 : 1;
                }
                return there;
            case 1:
                return show == null ? 0 : show.things.size();
            case 2:
                return show == null ? 0 : show.seats.size();
            case 3:
                return show == null ? 0 : show.tap;
            case 4:
                return show == null ? 0 : show.list.size();
            case 5:
                return show == null ? 0 : show.clapped;
            case 6:
                return acts.size();
            case 7:
                return tape.length();
            default:
                return BAD;
        }
    }

    /** Texts are read by walking over the tokens with the list of what may stand at each. */
    private long read() {
        String text = tape.toString();
        tape.setLength(0);
        Show draft = new Show();
        List<Integer> numbers = new ArrayList<>();
        char clause = ' ';
        String rest = "r";
        int at = 0;
        Matcher token = Pattern.compile("[a-z]|[0-9]+|[,;]").matcher(text);
        while (at < text.length()) {
            token.region(at, text.length());
            if (!token.lookingAt() || token.group().matches("[0-9]{3,}")) {
                return faulty(1, at);
            }
            String t = token.group();
            if (rest.isEmpty()) {
                rest = draft.things.isEmpty() ? "S" : draft.seats.isEmpty() ? "SZ" : "Z";
                boolean sort = t.matches("[pbflh]");
                if (!(sort && rest.contains("S") || t.equals("z") && rest.contains("Z"))) {
                    return faulty(1, at);
                }
                if ((sort ? draft.things.size() : draft.seats.size()) == 6) {
                    return faulty(3, at);
                }
                clause = t.charAt(0);
                rest = sort ? "d,w,j;" : "d,t;";
            } else {
                char want = rest.charAt(0);
                boolean number = "oedwjt".indexOf(want) >= 0;
                if (number ? !t.matches("[0-9]+") : !t.equals("" + want)) {
                    return faulty(1, at);
                }
                rest = want == 'r' ? "o,e;" : rest.substring(1);
                clause = want == 'r' ? 'r' : clause;
                if (number) {
                    int v = Integer.parseInt(t);
                    int low = want == 'w' || want == 't' ? 1 : 0;
                    int high = want == 'o' ? 60 : want == 'w' || want == 't' ? 20 : 9;
                    if (!in(v, low, high)) {
                        return faulty(2, at);
                    }
                    numbers.add(v);
                }
            }
            at = token.end();
            if (rest.isEmpty()) {
                endClause(draft, clause, numbers);
                numbers.clear();
            }
        }
        if (!rest.isEmpty() || draft.things.isEmpty()) {
            return faulty(1, text.length());
        }
        show = draft;
        acts.clear();
        return draft.things.size();
    }

    private static void endClause(Show draft, char clause, List<Integer> numbers) {
        if (clause == 'r') {
            draft.room = numbers.get(0);
            draft.extra = numbers.get(1);
        } else if (clause == 'z') {
            draft.seats.add(new Sitter(numbers.get(0), numbers.get(1)));
        } else {
            Thing t = new Thing(draft.things.size());
            t.sort = clause;
            t.label = numbers.get(0);
            t.weight = numbers.get(1);
            t.joy = numbers.get(2);
            draft.list.add(t.number);
            draft.things.add(t);
        }
    }

    private long faulty(int number, int place) {
        fault = number;
        return -1000100 - place;
    }

    private long ofThing(String name, int[] a) {
        Thing t = show.things.get(a[0]);
        int place = show.list.indexOf(a[0]);
        switch (name) {
            case "thing":
                return in(a[1], 0, 4)
                    ? new int[] {t.label, t.weight, t.joy, place < 0 ? NONE : place, show.wanters(t.label).size()}[a[1]] : BAD;
            case "front": case "off":
                if (place < 0) {
                    return STATE;
                }
                act();
                show.list.remove(place);
                if (name.equals("front")) {
                    show.list.add(0, a[0]);
                }
                return place;
            case "back":
                if (place >= 0) {
                    return STATE;
                }
                act();
                show.list.add(a[0]);
                return show.list.size();
            case "comes":
                Show s = show.copy();
                for (int tap = 1; tap <= 60; tap++) {
                    s.tap();
                    if (s.came == a[0]) {
                        return tap;
                    }
                }
                return NONE;
            case "kind":
                return SORTS.indexOf(t.sort);
            case "as":
                if (!in(a[1], 0, 5)) {
                    return BAD;
                }
                String is = new String[] {"", "01", "012", "013", "04", "045"}[SORTS.indexOf(t.sort)];
                return is.contains("" + a[1]) ? well(a[0]) : find(3);
            case "ask":
                if (!in(a[1], 0, 1)) {
                    return BAD;
                }
                trace.clear();
                return a[1] == 0 ? new Asked(t).size() : new Asked(t).mark();
            default:
                return who(a[0], a[1], a[2], a[3], a[4]);
        }
    }

    /** The bodies, chosen by the sort each time that SIZE or MARK is asked. */
    private final class Asked {
        private final Thing t;

        Asked(Thing t) {
            this.t = t;
        }

        private void begins(int body) {
            if (trace.size() < 16) {
                trace.add(body);
            }
        }

        int size() {
            return t.sort == 'b' ? size12() : t.sort == 'l' ? size13() : t.sort == 'h' ? size14() : size11();
        }

        int mark() {
            return t.sort == 'p' ? mark21() : t.sort == 'b' ? mark24() : t.sort == 'f' ? mark22() : mark23();
        }

        private int size10() {
            begins(10);
            return t.weight;
        }

        private int size11() {
            begins(11);
            int ten = size10();
            return ten + mark();
        }

        private int size12() {
            begins(12);
            return 0 - size11();
        }

        private int size13() {
            begins(13);
            return size10() - 100;
        }

        private int size14() {
            begins(14);
            return size13() * 2;
        }

        private int mark20() {
            begins(20);
            return t.number;
        }

        private int mark21() {
            begins(21);
            return mark20() + show.wanters(t.label).size();
        }

        private int mark22() {
            begins(22);
            return mark21() - 1000;
        }

        private int mark23() {
            begins(23);
            int twenty = mark20();
            return twenty - size();
        }

        private int mark24() {
            begins(24);
            return mark21() * 2;
        }
    }

    private long ofSeat(String name, int[] a) {
        Sitter p = show.seats.get(a[0]);
        switch (name) {
            case "seat":
                return in(a[1], 0, 2) ? new int[] {p.label, p.patience, p.waits() ? 0 : p.how.equals("pleased") ? 1 : 2}[a[1]] : BAD;
            case "sit":
                if (!in(a[1], 0, 9) || !in(a[2], 1, 20)) {
                    return BAD;
                }
                if (p.waits()) {
                    return STATE;
                }
                act();
                show.seats.set(a[0], new Sitter(a[1], a[2]));
                return show.bits("waits");
            case "when":
                if (!in(a[1], 1, 2)) {
                    return BAD;
                }
                for (int n = 0; n <= 60; n++) {
                    if (show.copy().taps(n).seats.get(a[0]).how.equals(a[1] == 1 ? "pleased" : "left")) {
                        return n;
                    }
                }
                return NONE;
            case "clear":
                return clear(a[0], a[1], a[2]);
            default:
                return wanted(a[0], a[1], a[2], a[3], a[4]);
        }
    }

    private static List<List<Integer>> subsets(List<Integer> of) {
        List<List<Integer>> all = new ArrayList<>();
        for (int bits = 0; bits < 1 << of.size(); bits++) {
            List<Integer> one = new ArrayList<>();
            for (int i = 0; i < of.size(); i++) {
                if ((bits & 1 << i) != 0) {
                    one.add(of.get(i));
                }
            }
            all.add(one);
        }
        return all;
    }

    private static int bitsOf(List<Integer> set) {
        return set.stream().mapToInt(i -> 1 << i).sum();
    }

    private long clear(int seat, int n, int what) {
        if (!in(n, 1, 30) || !in(what, 0, 1)) {
            return BAD;
        }
        List<List<Integer>> sets = subsets(show.list);
        sets.sort(Comparator.<List<Integer>>comparingInt(List::size).thenComparingInt(Model::bitsOf));
        for (List<Integer> set : sets) {
            Show s = show.copy();
            s.list.removeAll(set);
            if (s.taps(n).seats.get(seat).how.equals("pleased")) {
                return what == 0 ? set.size() : bitsOf(set);
            }
        }
        return NONE;
    }

    private boolean tells(Show s, int row, int i, int n) {
        for (int t = 1; t <= n; t++) {
            if (s.copy().taps(t).clapped != rows[row][i + t - 1]) {
                return false;
            }
        }
        return true;
    }

    private int spanFinding(int row, int i, int n) {
        return rows[row] == null ? 1 : i < 0 || (long) i + n > rows[row].length ? 2 : 0;
    }

    private long who(int thing, int which, int row, int i, int n) {
        if (!in(which, 0, 2) || !in(row, 0, 7) || !in(n, 1, 12)) {
            return BAD;
        }
        if (spanFinding(row, i, n) != 0) {
            return find(spanFinding(row, i, n));
        }
        int bits = 0;
        for (int v = which == 0 ? 1 : 0; v <= (which == 0 ? 5 : 9); v++) {
            Show s = show.copy();
            Thing t = s.things.get(thing);
            t.sort = which == 0 ? SORTS.charAt(v) : t.sort;
            t.label = which == 1 ? v : t.label;
            t.joy = which == 2 ? v : t.joy;
            bits += tells(s, row, i, n) ? 1 << v : 0;
        }
        return well(bits);
    }

    private long wanted(int seat, int which, int row, int i, int n) {
        if (!in(which, 0, 1) || !in(row, 0, 7) || !in(n, 1, 12)) {
            return BAD;
        }
        if (!show.seats.get(seat).waits()) {
            return STATE;
        }
        if (spanFinding(row, i, n) != 0) {
            return find(spanFinding(row, i, n));
        }
        int bits = 0;
        for (int v = which; v <= (which == 0 ? 9 : 20); v++) {
            Show s = show.copy();
            Sitter p = s.seats.get(seat);
            p.label = which == 0 ? v : p.label;
            p.patience = which == 1 ? v : p.patience;
            bits += tells(s, row, i, n) ? 1 << v : 0;
        }
        return well(bits);
    }

    private long ofShow(String name, int[] a) {
        switch (name) {
            case "taps":
                if (!in(a[0], 1, 24)) {
                    return BAD;
                }
                if (show.tap + a[0] > 999) {
                    return FULL;
                }
                for (int t = 0; t < a[0]; t++) {
                    act();
                    show.tap();
                }
                return show.clapped;
            case "list":
                return a[0] < 0 ? BAD : a[0] < show.list.size() ? show.list.get(a[0]) : NONE;
            case "stand":
                return ahead(0, a[0]);
            case "next":
                Show s = show.copy().taps(1);
                return in(a[0], 0, 2) ? new int[] {s.came, bitsOf(s.gladNow), s.clapNow}[a[0]] : BAD;
            case "ahead":
                return ahead(a[0], a[1]);
            case "order":
                return order(a[0]);
            case "pack":
                return pack(a[0]);
            case "match":
                return match();
            case "bring":
                return bring(a[0], a[1]);
            case "lack":
                return lack();
            case "wasOff":
                return wasOff(a[0], a[1], a[2]);
            case "wander":
                return wander(a[0], a[1], a[2], a[3]);
            case "drawn":
                return drawn(a[0], a[1], a[2]);
            default:
                throw new IllegalArgumentException(name);
        }
    }

    private long ahead(int n, int what) {
        if (!in(n, 0, 60) || !in(what, 0, 3)) {
            return BAD;
        }
        Show s = show.copy().taps(n);
        return new int[] {s.bits("waits"), s.bits("pleased"), s.bits("left"), s.clapped}[what];
    }

    private static void permutations(List<Integer> done, List<Integer> left, List<List<Integer>> all) {
        if (left.isEmpty()) {
            all.add(done);
        }
        for (Integer one : left) {
            List<Integer> more = new ArrayList<>(done);
            more.add(one);
            List<Integer> fewer = new ArrayList<>(left);
            fewer.remove(one);
            permutations(more, fewer, all);
        }
    }

    private long order(int k) {
        if (k < -2) {
            return BAD;
        }
        List<Integer> numbers = new ArrayList<>(show.list);
        Collections.sort(numbers);
        List<List<Integer>> all = new ArrayList<>();
        permutations(List.of(), numbers, all);
        Show best = null;
        List<Integer> bestOrder = null;
        for (List<Integer> one : all) {
            Show s = show.copy();
            one.forEach(s::hand);
            if (best == null || s.clapped > best.clapped) {
                best = s;
                bestOrder = one;
            }
        }
        return k == -1 ? best.clapped : k == -2 ? best.bits("pleased") : k < bestOrder.size() ? bestOrder.get(k) : NONE;
    }

    private long pack(int what) {
        if (!in(what, 0, 1)) {
            return BAD;
        }
        List<Integer> all = new ArrayList<>();
        show.things.forEach(t -> all.add(t.number));
        List<List<Integer>> sets = subsets(all);
        sets.removeIf(set -> set.stream().mapToInt(t -> show.things.get(t).weight).sum() > show.room);
        sets.sort(Comparator.<List<Integer>>comparingInt(set -> -joyOf(set)).thenComparingInt(List::size).thenComparingInt(Model::bitsOf));
        return what == 0 ? bitsOf(sets.get(0)) : joyOf(sets.get(0));
    }

    private int joyOf(List<Integer> set) {
        return set.stream().mapToInt(t -> show.things.get(t).joy).sum();
    }

    private long listed(Predicate<Thing> which) {
        return show.list.stream().map(show.things::get).filter(which).count();
    }

    private long match() {
        long sum = 0;
        for (int label = 0; label < 10; label++) {
            int l = label;
            long want = show.wanters(label).size();
            sum += listed(t -> t.label == l && t.sort == 'f') > 0 ? want : Math.min(want, listed(t -> t.label == l && t.sort != 'h'));
        }
        return sum;
    }

    private long lack() {
        long bits = 0;
        for (Sitter p : show.seats) {
            if (p.waits() && listed(t -> t.label == p.label && t.sort != 'h') == 0) {
                bits |= 1L << p.label;
            }
        }
        return bits;
    }

    private long bring(int n, int what) {
        if (!in(n, 1, 30) || !in(what, 0, 1)) {
            return BAD;
        }
        int which = NONE;
        int most = NONE;
        for (Thing t : show.things) {
            Show s = show.copy();
            s.list.remove(Integer.valueOf(t.number));
            s.list.add(0, t.number);
            if (s.taps(n).clapped > most) {
                most = s.clapped;
                which = t.number;
            }
        }
        return what == 0 ? which : most;
    }

    private long wasOff(int row, int i, int n) {
        if (!in(row, 0, 7) || !in(n, 1, 12)) {
            return BAD;
        }
        if (spanFinding(row, i, n) != 0) {
            return find(spanFinding(row, i, n));
        }
        int bits = tells(show, row, i, n) ? 64 : 0;
        for (Integer t : show.list) {
            Show s = show.copy();
            s.list.remove(t);
            bits += tells(s, row, i, n) ? 1 << t : 0;
        }
        return well(bits);
    }

    private long wander(int k, int n, int p, int what) {
        if (!in(k, 0, 999) || !in(n, 0, 30) || !in(p, 0, 10) || !in(what, 0, 1)) {
            return BAD;
        }
        List<Integer> waiting = new ArrayList<>();
        for (int i = 0; i < show.seats.size(); i++) {
            if (show.seats.get(i).waits()) {
                waiting.add(i);
            }
        }
        BigInteger above = BigInteger.ZERO;
        for (List<Integer> gone : subsets(waiting)) {
            Show s = show.copy();
            gone.forEach(i -> s.seats.get(i).how = "left");
            if (s.taps(n).clapped >= k) {
                above = above.add(BigInteger.valueOf(p).pow(gone.size()).multiply(BigInteger.valueOf(10 - p).pow(waiting.size() - gone.size())));
            }
        }
        BigInteger below = BigInteger.TEN.pow(waiting.size());
        return (what == 0 ? above : below).divide(above.gcd(below)).longValue();
    }

    private long drawn(int n, int seed, int what) {
        if (!in(n, 0, 60) || !in(seed, 1, 999999) || !in(what, 0, 1)) {
            return BAD;
        }
        Show s = show.copy();
        long x = seed;
        int often = 0;
        for (int t = 0; t < n; t++) {
            x = x * 16807L % 2147483647L;
            if (!s.seats.isEmpty()) {
                int seat = (int) (x % s.seats.size());
                if (!s.seats.get(seat).waits()) {
                    s.seats.set(seat, new Sitter((int) (x % 10), (int) (x % 5 + 1)));
                }
            }
            if (s.list.isEmpty()) {
                s.list.add((int) (x % s.things.size()));
            }
            s.tap();
            often += s.gladNow.size();
        }
        return what == 0 ? s.clapped : often;
    }
}
