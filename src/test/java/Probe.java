import java.util.ArrayList;
import java.util.List;

/** All that can be seen of an object by at most some 350 calls, the acts, images, rows and the tape with it. */
final class Probe {
    private final RabbitList x;
    private final List<String> seen = new ArrayList<>();

    private Probe(RabbitList x) {
        this.x = x;
    }

    static List<String> of(RabbitList x) {
        Probe p = new Probe(x);
        p.look();
        return p.seen;
    }

    private void ask(String call) {
        seen.add(call + " = " + Call.make(x, call));
    }

    private void look() {
        for (String call : new String[] {"status()", "fault()", "next(0)", "next(1)", "next(2)", "pack(0)", "match()"}) {
            ask(call);
        }
        for (int what = 0; what < 8; what++) {
            ask("count(" + what + ")");
        }
        for (int i = 0; i < 8; i++) {
            ask("trace(" + i + ")");
        }
        lookAtThings();
        lookAtSeats();
        lookAtRows();
        lookAtActs();
        for (int k = 0; k < 2; k++) {
            ask("restore(" + k + ")");
            lookAtSeats();
            lookAtTheList();
        }
        ask("show()");
        ask("fault()");
        ask("count(1)");
    }

    private void lookAtThings() {
        for (int t = 0; t < 6; t++) {
            for (int what = 0; what < 4; what++) {
                ask("thing(" + t + ", " + what + ")");
            }
            ask("kind(" + t + ")");
        }
        lookAtTheList();
    }

    private void lookAtTheList() {
        for (int k = 0; k < 6; k++) {
            ask("list(" + k + ")");
        }
        ask("count(3)");
        ask("count(5)");
    }

    private void lookAtSeats() {
        for (int s = 0; s < 6; s++) {
            for (int what = 0; what < 3; what++) {
                ask("seat(" + s + ", " + what + ")");
            }
        }
    }

    // Items can be seen only by how they fit; the lane by what is cut off.
    private void lookAtRows() {
        for (int r = 0; r < 4; r++) {
            for (int i = 0; i < 3; i++) {
                ask("wasOff(" + r + ", " + i + ", 1)");
            }
        }
        for (int r = 0; r < 8; r++) {
            ask("set(" + r + ", 0, 70000)");
            ask("drop(" + r + ")");
        }
    }

    private void lookAtActs() {
        for (int act = 0; act < 25; act++) {
            ask("undo()");
            ask("list(0)");
            ask("stand(0)");
            if (x.count(6) == 0) {
                break;
            }
        }
        lookAtTheList();
    }
}
