import java.util.Arrays;
import java.util.Random;

/** Compares the class with the model over many runs of calls, made by a fixed seed. */
public final class ModelTest {
    private static final Check c = new Check();
    private static final Random dice = new Random(20261118);
    private static final int RUNS = 1500;
    private static final int CALLS = 512;
    private static final String[] NAMES = {
        "row", "set", "copy", "drop", "feed", "show", "fault", "undo", "taps", "front", "off", "back", "sit", "thing",
        "seat", "list", "stand", "next", "ahead", "when", "comes", "order", "pack", "match", "clear", "bring", "lack",
        "who", "wanted", "wasOff", "wander", "drawn", "image", "restore", "kind", "as", "ask", "trace", "count", "status"};

    private static RabbitList x;
    private static Model model;
    private static int calls;

    public static void main(String[] args) {
        for (int run = 0; run < RUNS; run++) {
            c.part("run " + run);
            x = new RabbitList();
            model = new Model();
            calls = 0;
            if (run % 10 != 0) {
                tell();
            }
            while (calls < CALLS - 160) {
                step();
            }
        }
        extremes();
        c.end();
    }

    // Every call with every choice of numbers at and beyond the edges of int and of what is told.
    private static void extremes() {
        int[] edges = {Integer.MIN_VALUE, -1, 0, 1, 12, Integer.MAX_VALUE};
        for (String name : NAMES) {
            int parameters = argumentsOf(name).length;
            int choices = (int) Math.pow(edges.length, parameters);
            calls = CALLS;
            for (int choice = 0; choice < choices; choice++) {
                if (calls >= CALLS - 2) {
                    begin(name);
                }
                int[] a = new int[parameters];
                for (int i = 0, rest = choice; i < parameters; i++, rest /= edges.length) {
                    a[i] = edges[rest % edges.length];
                }
                both(name, a);
                both("status");
            }
        }
    }

    private static void begin(String name) {
        c.part("edges of " + name);
        x = new RabbitList();
        model = new Model();
        calls = 0;
        for (char letter : "r20,2;p1,4,3;b2,9,5;l3,7,6;h2,5,9;z1,5;z2,3;z1,9;".toCharArray()) {
            both("feed", letter);
        }
        both("show");
        both("taps", 1);
        both("row", 0, 0, 13);
        both("row", 1, 0, 1);
    }

    private static void step() {
        int way = dice.nextInt(100);
        if (way == 0) {
            tell();
        } else if (way < 12) {
            fillByForetelling();
        } else if (way < 30) {
            String[] acts = {"taps", "front", "off", "back", "sit", "undo"};
            String name = acts[dice.nextInt(acts.length)];
            both(name, argumentsOf(name));
        } else {
            String name = NAMES[dice.nextInt(NAMES.length)];
            if (!name.equals("show") || dice.nextInt(5) == 0) {
                both(name, argumentsOf(name));
            }
        }
    }

    // A row that is made by what comes true, changed at times, so that much fits.
    private static void fillByForetelling() {
        int n = 1 + dice.nextInt(6);
        int row = dice.nextInt(8);
        both("row", row, dice.nextInt(3), n);
        int extra = dice.nextInt(3) == 0 ? dice.nextInt(6) : 0;
        for (int t = 1; t <= n; t++) {
            long clapped = both("ahead", t, 3);
            both("set", row, t - 1, (int) clapped + (dice.nextInt(4) == 0 ? extra : 0));
        }
        both("who", dice.nextInt(6), dice.nextInt(3), row, 0, n);
        both("wanted", dice.nextInt(6), dice.nextInt(2), row, 0, n);
        both("wasOff", row, 0, n);
    }

    private static int up(int bound) {
        return dice.nextInt(bound);
    }

    private static int within(int low, int high) {
        switch (dice.nextInt(24)) {
            case 0:
                return low - 1;
            case 1:
                return high + 1;
            case 2:
                return dice.nextInt(10) == 0 ? dice.nextInt() : low;
            case 3:
                return high;
            default:
                return low + dice.nextInt(high - low + 1);
        }
    }

    private static int[] argumentsOf(String name) {
        switch (name) {
            case "row":
                return new int[] {within(0, 7), within(0, 2), within(-1, 40)};
            case "set":
                return new int[] {within(0, 7), within(0, 12), dice.nextInt(3) == 0 ? dice.nextInt() : up(300)};
            case "copy":
                return new int[] {within(0, 7), within(0, 9), within(0, 7), within(0, 9), within(0, 9)};
            case "drop":
                return new int[] {within(0, 7)};
            case "feed":
                return new int[] {within(0, 255)};
            case "taps":
                return new int[] {up(3) == 0 ? within(1, 24) : 1 + up(3)};
            case "front": case "off": case "back": case "comes": case "kind":
                return new int[] {within(0, 5)};
            case "sit":
                return new int[] {within(0, 5), within(0, up(2) == 0 ? 9 : 3), within(1, 20)};
            case "thing": case "ask": case "as":
                return new int[] {within(0, 5), within(0, name.equals("thing") ? 4 : name.equals("as") ? 5 : 1)};
            case "seat":
                return new int[] {within(0, 5), within(0, 2)};
            case "list":
                return new int[] {within(0, 6)};
            case "stand":
                return new int[] {within(0, 3)};
            case "next":
                return new int[] {within(0, 2)};
            case "ahead":
                return new int[] {within(0, 60), within(0, 3)};
            case "when":
                return new int[] {within(0, 5), within(1, 2)};
            case "order":
                return new int[] {within(-2, 6)};
            case "pack":
                return new int[] {within(0, 1)};
            case "clear":
                return new int[] {within(0, 5), up(2) == 0 ? within(1, 30) : within(1, 4), within(0, 1)};
            case "bring":
                return new int[] {up(2) == 0 ? within(1, 30) : within(1, 4), within(0, 1)};
            case "who":
                return new int[] {within(0, 5), within(0, 2), within(0, 7), within(0, 3), up(2) == 0 ? within(1, 12) : 1};
            case "wanted":
                return new int[] {within(0, 5), within(0, 1), within(0, 7), within(0, 3), up(2) == 0 ? within(1, 12) : 1};
            case "wasOff":
                return new int[] {within(0, 7), within(0, 3), up(2) == 0 ? within(1, 12) : 1};
            case "wander":
                return new int[] {up(4) == 0 ? within(0, 999) : within(0, 60), within(0, 30), within(0, 10), within(0, 1)};
            case "drawn":
                return new int[] {within(0, 60), within(1, 999999), within(0, 1)};
            case "image": case "restore":
                return new int[] {within(0, 1)};
            case "trace":
                return new int[] {within(0, 7)};
            case "count":
                return new int[] {within(0, 7)};
            default:
                return new int[0];
        }
    }

    private static void tell() {
        StringBuilder text = new StringBuilder();
        text.append('r').append(up(61)).append(',').append(up(10)).append(';');
        int labels = 1 + up(5);
        int things = 1 + up(6);
        for (int t = 0; t < things; t++) {
            text.append("pbflh".charAt(up(5))).append(up(labels)).append(',').append(1 + up(20)).append(',').append(up(10)).append(';');
        }
        int seats = up(7);
        for (int s = 0; s < seats; s++) {
            text.append('z').append(up(labels)).append(',').append(1 + up(up(2) == 0 ? 20 : 5)).append(';');
        }
        if (up(4) == 0) {
            spoil(text);
        }
        for (int i = 0; i < text.length() && calls < CALLS - 2; i++) {
            both("feed", text.charAt(i));
        }
        both("show");
        both("fault");
    }

    private static void spoil(StringBuilder text) {
        String signs = "rpbflhz,;0123456789 q";
        int at = up(text.length());
        switch (up(4)) {
            case 0:
                text.setLength(at);
                break;
            case 1:
                text.deleteCharAt(at);
                break;
            case 2:
                text.insert(at, signs.charAt(up(signs.length())));
                break;
            default:
                text.append("p1,1,1;p1,1,1;z1,1;z1,1;z1,1;z1,1;".substring(7 * up(2)));
        }
    }

    private static long both(String name, int... a) {
        calls++;
        long got = of(name, a);
        c.due("call " + calls + " " + name + Arrays.toString(a), got, model.call(name, a));
        return got;
    }

    private static long of(String name, int[] a) {
        switch (name) {
            case "row": return x.row(a[0], a[1], a[2]);
            case "set": return x.set(a[0], a[1], a[2]);
            case "copy": return x.copy(a[0], a[1], a[2], a[3], a[4]);
            case "drop": return x.drop(a[0]);
            case "feed": return x.feed(a[0]);
            case "show": return x.show();
            case "fault": return x.fault();
            case "undo": return x.undo();
            case "taps": return x.taps(a[0]);
            case "front": return x.front(a[0]);
            case "off": return x.off(a[0]);
            case "back": return x.back(a[0]);
            case "sit": return x.sit(a[0], a[1], a[2]);
            case "thing": return x.thing(a[0], a[1]);
            case "seat": return x.seat(a[0], a[1]);
            case "list": return x.list(a[0]);
            case "stand": return x.stand(a[0]);
            case "next": return x.next(a[0]);
            case "ahead": return x.ahead(a[0], a[1]);
            case "when": return x.when(a[0], a[1]);
            case "comes": return x.comes(a[0]);
            case "order": return x.order(a[0]);
            case "pack": return x.pack(a[0]);
            case "match": return x.match();
            case "clear": return x.clear(a[0], a[1], a[2]);
            case "bring": return x.bring(a[0], a[1]);
            case "lack": return x.lack();
            case "who": return x.who(a[0], a[1], a[2], a[3], a[4]);
            case "wanted": return x.wanted(a[0], a[1], a[2], a[3], a[4]);
            case "wasOff": return x.wasOff(a[0], a[1], a[2]);
            case "wander": return x.wander(a[0], a[1], a[2], a[3]);
            case "drawn": return x.drawn(a[0], a[1], a[2]);
            case "image": return x.image(a[0]);
            case "restore": return x.restore(a[0]);
            case "kind": return x.kind(a[0]);
            case "as": return x.as(a[0], a[1]);
            case "ask": return x.ask(a[0], a[1]);
            case "trace": return x.trace(a[0]);
            case "count": return x.count(a[0]);
            case "status": return x.status();
            default: throw new IllegalArgumentException(name);
        }
    }
}
