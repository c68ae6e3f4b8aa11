import java.io.IOException;
import java.util.List;
import java.util.function.Supplier;

/** Tests by sentences: each names its place and its words, and no word of the document goes without a test. */
final class Edge {
    private final Check c = new Check();
    private final Document document;
    private String sentence = "";
    private int answers = 1;

    Edge() throws IOException {
        document = new Document();
        if (!document.isThere()) {
            System.out.println("the document is not there: the words are not looked up");
        }
    }

    void sentence(String place, String words) {
        closeSentence();
        sentence = place + ", \"" + words + "\"";
        answers = 0;
        c.part(sentence);
        if (document.isThere()) {
            c.due("the words stand in the document", document.name(place, words) ? 1 : 0, 1);
        }
    }

    private void closeSentence() {
        c.due("a sentence has an answer at the least", answers > 0 ? 1 : 0, 1);
    }

    void due(RabbitList x, String call, long want) {
        answers++;
        c.due(call, Call.make(x, call), want);
    }

    void due(String what, long got, long want) {
        answers++;
        c.due(what, got, want);
    }

    /** The same answer is due for each call. */
    void each(RabbitList x, long want, String... calls) {
        for (String call : calls) {
            due(x, call, want);
        }
    }

    /** Each call is refused, on an object of its own, and nothing but status() is changed by it. */
    void refuses(Supplier<RabbitList> made, long want, String... calls) {
        boolean finding = want <= Check.NULL && want >= Check.STORE;
        for (String call : calls) {
            RabbitList x = made.get();
            due(x, call, want);
            seenAlike(call, x, made.get(), finding ? -1000010 - want : Check.NONE);
        }
    }

    /** Nothing that can be seen is changed by the calls, but status() becomes the one that is told (NONE: not that). */
    void leavesAll(Supplier<RabbitList> made, long status, String... calls) {
        RabbitList x = made.get();
        for (String call : calls) {
            long answer = Call.make(x, call);
            due(call + " is not refused: " + answer, answer >= Check.NONE ? 1 : 0, 1);
        }
        seenAlike(calls[0] + " ..", x, made.get(), status);
    }

    void seenAlike(String call, RabbitList x, RabbitList y, long status) {
        List<String> got = Probe.of(x);
        List<String> want = Probe.of(y);
        answers++;
        c.due("as much is seen behind " + call, got.size(), want.size());
        if (status != Check.NONE) {
            want.set(0, "status() = " + status);
        }
        for (int i = 0; i < Math.min(got.size(), want.size()); i++) {
            if (!got.get(i).equals(want.get(i))) {
                c.due("behind " + call + " is seen " + got.get(i) + ", due is " + want.get(i), 1, 0);
            }
        }
    }

    void end() {
        closeSentence();
        c.part("the document");
        for (String words : document.unnamed()) {
            c.due("no test has named, " + words, 1, 0);
        }
        c.end();
    }
}
