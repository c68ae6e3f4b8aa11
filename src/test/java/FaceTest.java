import java.lang.reflect.Constructor;
import java.lang.reflect.Field;
import java.lang.reflect.Method;
import java.lang.reflect.Modifier;
import java.util.TreeSet;

/** Promise 1, and the public face as the document prints it. */
public final class FaceTest {
    private static final Check c = new Check();
    private static final String[] FACE = {
        "int row(int,int,int)", "int set(int,int,int)", "int copy(int,int,int,int,int)", "int drop(int)",
        "int feed(int)", "int show()", "int fault()", "int undo()", "int taps(int)", "int front(int)",
        "int off(int)", "int back(int)", "int sit(int,int,int)", "int thing(int,int)", "int seat(int,int)",
        "int list(int)", "int stand(int)", "int next(int)", "int ahead(int,int)", "int when(int,int)",
        "int comes(int)", "int order(int)", "int pack(int)", "int match()", "int clear(int,int,int)",
        "int bring(int,int)", "int lack()", "int who(int,int,int,int,int)", "int wanted(int,int,int,int,int)",
        "int wasOff(int,int,int)", "long wander(int,int,int,int)", "int drawn(int,int,int)", "int image(int)",
        "int restore(int)", "int kind(int)", "int as(int,int)", "int ask(int,int)", "int trace(int)",
        "int count(int)", "int status()"};

    public static void main(String[] args) {
        hasTheMethods();
        hasTheConstants();
        isNewWithoutShow();
        c.end();
    }

    private static void hasTheMethods() {
        c.part("the face");
        TreeSet<String> open = new TreeSet<>();
        for (Method m : RabbitList.class.getDeclaredMethods()) {
            if (Modifier.isPrivate(m.getModifiers())) {
                continue;
            }
            StringBuilder text = new StringBuilder(m.getReturnType() + " " + m.getName() + "(");
            for (Class<?> type : m.getParameterTypes()) {
                text.append(text.charAt(text.length() - 1) == '(' ? "" : ",").append(type);
            }
            open.add(text.append(')').toString());
            c.due(m.getName() + " is public", Modifier.isPublic(m.getModifiers()) ? 1 : 0, 1);
            c.due(m.getName() + " is static", Modifier.isStatic(m.getModifiers()) ? 1 : 0, 0);
        }
        for (String method : FACE) {
            c.due(method + " is there", open.remove(method) ? 1 : 0, 1);
        }
        c.due("methods beyond the face " + open, open.size(), 0);
        Constructor<?>[] constructors = RabbitList.class.getDeclaredConstructors();
        c.due("constructors", constructors.length, 1);
        c.due("its parameters", constructors[0].getParameterCount(), 0);
        c.due("the class is public and final", RabbitList.class.getModifiers(), Modifier.PUBLIC | Modifier.FINAL);
    }

    private static void hasTheConstants() {
        c.part("the constants");
        c.due("NONE", RabbitList.NONE, -1000000);
        c.due("BAD", RabbitList.BAD, -1000001);
        c.due("STATE", RabbitList.STATE, -1000002);
        c.due("FULL", RabbitList.FULL, -1000003);
        int open = 0;
        for (Field f : RabbitList.class.getDeclaredFields()) {
            open += Modifier.isPrivate(f.getModifiers()) ? 0 : 1;
        }
        c.due("fields that are not private", open, 4);
    }

    private static void isNewWithoutShow() {
        c.part("promise 1");
        RabbitList x = new RabbitList();
        for (int what = 0; what <= 7; what++) {
            c.due("count(" + what + ")", x.count(what), 0);
        }
        c.due("status()", x.status(), 0);
        c.due("fault()", x.fault(), 0);
        c.due("trace(0)", x.trace(0), Check.NONE);
        c.due("undo()", x.undo(), Check.STATE);
        for (int r = 0; r < 8; r++) {
            c.due("drop(" + r + ")", x.drop(r), Check.NULL);
        }
        c.due("thing(0, 0)", x.thing(0, 0), Check.BAD);
        c.due("seat(0, 0)", x.seat(0, 0), Check.BAD);
        c.due("stand(0)", x.stand(0), Check.STATE);
        c.due("match()", x.match(), Check.STATE);
        c.due("image(0)", x.image(0), Check.STATE);
        c.due("restore(1)", x.restore(1), Check.STATE);
    }
}
