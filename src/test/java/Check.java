/** Counts the calls whose answer is not the one that is due. */
final class Check {
    static final int NULL = -1000011, PLACE = -1000012, KIND = -1000013, SIZE = -1000014, STORE = -1000015;
    static final int NONE = RabbitList.NONE, BAD = RabbitList.BAD, STATE = RabbitList.STATE, FULL = RabbitList.FULL;

    private int wrong;
    private int made;
    private String part = "";

    void part(String name) {
        part = name;
    }

    void due(String call, long got, long want) {
        made++;
        if (got != want) {
            wrong++;
            System.out.println(part + ": " + call + " answered " + got + ", due is " + want);
        }
    }

    void end() {
        System.out.println(wrong == 0 ? made + " answers are as due" : wrong + " of " + made + " answers are not as due");
        if (wrong != 0 || made == 0) {
            System.exit(1);
        }
    }

    static void feed(RabbitList x, String text) {
        for (int i = 0; i < text.length(); i++) {
            x.feed(text.charAt(i));
        }
    }

    static int tell(RabbitList x, String text) {
        feed(x, text);
        return x.show();
    }

    static RabbitList told(String text) {
        RabbitList x = new RabbitList();
        if (tell(x, text) < 1) {
            throw new IllegalStateException("not a show: " + text);
        }
        return x;
    }

    static int fill(RabbitList x, int row, int lane, int... items) {
        int answer = x.row(row, lane, items.length);
        for (int i = 0; i < items.length; i++) {
            x.set(row, i, items[i]);
        }
        return answer;
    }

    static String repeat(String text, int times) {
        return text.repeat(times);
    }
}
