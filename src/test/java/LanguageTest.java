import java.io.DataInputStream;
import java.io.IOException;
import java.io.InputStream;
import java.nio.file.Files;
import java.nio.file.Path;
import java.util.ArrayList;
import java.util.List;
import java.util.Set;
import java.util.TreeSet;
import java.util.regex.Matcher;
import java.util.regex.Pattern;

/** The rules of LANGUAGE.md that a look at the source and at what is compiled can hold; run from the root of the project. */
public final class LanguageTest {
    private static final Check c = new Check();
    private static final int LONGEST_METHOD = 60, MOST_PARAMETERS = 7, MOST_CLASSES = 12, MOST_FIELDS = 20;
    private static final Pattern METHOD = Pattern.compile(
        "^\\s+(?:(?:public|private|static|final) )*(?:[A-Za-z\\[\\]]+ )?([A-Za-z]+)\\(([^)]*)\\) \\{$");
    private static final Pattern FIELD = Pattern.compile("^\\s+(?:(?:private|final) )*[A-Za-z\\[\\]]+ [a-zA-Z]+;$");

    // Of what rule 4 lists, what the class uses; more of the list may come to stand here.
    private static final Set<String> LIBRARY = Set.of(
        "java/lang/Object.<init>", "java/lang/System.arraycopy", "java/lang/Math.min", "java/lang/Integer.bitCount",
        "java/lang/String.indexOf");

    public static void main(String[] args) throws IOException {
        String source = Files.readString(Path.of("src/main/java/RabbitList.java"));
        String code = source.replaceAll("/\\*\\*.*?\\*/", "").replaceAll("//.*", "");
        usesNothingForbidden(code);
        staysSmall(code.split("\n"));
        callsOnlyWhatIsListed();
        c.end();
    }

    private static void never(String code, String rule, String pattern) {
        Matcher m = Pattern.compile(pattern).matcher(code);
        c.due("rule " + rule + ", never " + pattern, m.find() ? 1 : 0, 0);
    }

    private static void usesNothingForbidden(String code) {
        c.part("words");
        for (String word : new String[] {"throw", "throws", "try", "catch", "synchronized", "assert", "finally"}) {
            never(code, "6", "\\b" + word + "\\b");
        }
        never(code, "2", "->|::|\\bnew [A-Za-z]+\\([^)]*\\) \\{");
        never(code, "1", "\\bprotected\\b|\\bpackage\\b");
        never(code, "4", "\\bimport\\b|\\bSystem\\.(?!arraycopy)|Exact\\(|\\bThread\\b|\\bRandom\\b");
        never(code, "5", "\\bstatic \\{|\\bstatic (?!final|boolean|int|long|class|void|String|\\{)");
        never(code, "9", "while \\(true\\)|for \\(;;\\)");
        never(code, "10", "\" \\+|\\+ \"");
        c.due("signs beyond 127", code.chars().anyMatch(sign -> sign > 126) ? 1 : 0, 0);
    }

    private static void staysSmall(String[] lines) {
        c.part("sizes");
        List<String> open = new ArrayList<>();
        List<String> hidden = new ArrayList<>();
        int classes = 0;
        int fields = 0;
        String method = "";
        int began = 0;
        String end = "";
        for (int i = 0; i < lines.length; i++) {
            String line = lines[i];
            if (line.contains(" class ")) {
                classes++;
                fields = 0;
            } else if (FIELD.matcher(line).matches() && end.isEmpty()) {
                fields++;
                c.due("fields up to line " + i, fields <= MOST_FIELDS ? 1 : 0, 1);
            }
            Matcher m = METHOD.matcher(line);
            if (end.isEmpty() && m.matches()) {
                method = m.group(1);
                began = i;
                end = line.substring(0, line.indexOf(line.trim())) + "}";
                (line.contains("public ") ? open : hidden).add(method);
                int parameters = m.group(2).isEmpty() ? 0 : m.group(2).split(",").length;
                c.due("parameters of " + method, parameters <= MOST_PARAMETERS ? 1 : 0, 1);
            } else if (line.equals(end)) {
                c.due("lines of " + method, i - began < LONGEST_METHOD ? 1 : 0, 1);
                end = "";
            }
        }
        c.due("classes", classes <= MOST_CLASSES ? 1 : 0, 1);
        c.due("public methods and the constructor", open.size(), 41);
        c.due("hidden methods were seen", hidden.size() > 60 ? 1 : 0, 1);
        hidden.retainAll(open);
        c.due("hidden ones with the name of a public one " + hidden, hidden.size(), 0);
    }

    private static void callsOnlyWhatIsListed() throws IOException {
        c.part("rule 4");
        Set<String> called = new TreeSet<>();
        addMembers(RabbitList.class, called);
        for (Class<?> inside : RabbitList.class.getDeclaredClasses()) {
            addMembers(inside, called);
        }
        called.removeIf(member -> member.startsWith("RabbitList"));
        for (String member : called) {
            c.due("may be called: " + member, LIBRARY.contains(member) ? 1 : 0, 1);
        }
        c.due("calls of the library were seen", called.isEmpty() ? 0 : 1, 1);
    }

    // What a class file calls or reads stands in its table of constants (JVM specification, 4.4).
    private static void addMembers(Class<?> one, Set<String> members) throws IOException {
        try (InputStream bytes = one.getResourceAsStream(one.getName() + ".class");
                DataInputStream in = new DataInputStream(bytes)) {
            in.skipBytes(8);
            int size = in.readUnsignedShort();
            int[][] pairs = new int[size][];
            boolean[] isMember = new boolean[size];
            String[] texts = new String[size];
            for (int i = 1; i < size; i++) {
                int tag = in.readUnsignedByte();
                switch (tag) {
                    case 1 -> texts[i] = in.readUTF();
                    case 3, 4 -> in.skipBytes(4);
                    case 5, 6 -> {
                        in.skipBytes(8);
                        i++;
                    }
                    case 7, 8 -> pairs[i] = new int[] {in.readUnsignedShort()};
                    case 9, 10, 11, 12 -> {
                        pairs[i] = new int[] {in.readUnsignedShort(), in.readUnsignedShort()};
                        isMember[i] = tag != 12;
                    }
                    default -> throw new IllegalStateException("a constant of tag " + tag + " in " + one.getName());
                }
            }
            for (int i = 1; i < size; i++) {
                if (isMember[i]) {
                    members.add(texts[pairs[pairs[i][0]][0]] + "." + texts[pairs[pairs[i][1]][0]]);
                }
            }
        }
    }
}
