import java.io.IOException;
import java.lang.reflect.Field;
import java.lang.reflect.Method;
import java.lang.reflect.Modifier;
import java.nio.file.Files;
import java.nio.file.Path;
import java.util.ArrayList;
import java.util.Comparator;
import java.util.List;
import java.util.Set;
import java.util.TreeSet;
import java.util.regex.Matcher;
import java.util.regex.Pattern;
import java.util.stream.Stream;

/** README.md: what it shows of use runs and prints as it says, and it names all calls and all tests. */
public final class ReadmeTest {
    private static final Check c = new Check();
    private static final String ROOM = "/tmp/rabbit";
    private static final Pattern BLOCK = Pattern.compile("(?ms)^```([a-z]+)\n(.*?)^```$");
    private static final Pattern SAID = Pattern.compile("say\\((x\\..*)\\);\\s*// (-?\\d+): \\S.*");

    public static void main(String[] args) throws IOException, InterruptedException {
        String page = Files.readString(Path.of("README.md"));
        // A place of its own, so that two runs at once don't meet in the one that the page names.
        Path room = Files.createTempDirectory("rabbit");
        try {
            showsWhatRuns(page, room);
        } finally {
            remove(room);
        }
        namesEveryCall(page);
        namesEveryRefusal(page);
        namesEveryTest(page);
        c.end();
    }

    private static void showsWhatRuns(String page, Path room) throws IOException, InterruptedException {
        c.part("what README.md shows");
        String program = onlyBlock(page, "java");
        Files.writeString(room.resolve("Example.java"), program);
        boolean exampleRan = false;
        boolean testRan = false;
        for (String command : blocks(page, "sh")) {
            c.due("javac and java alone, or .ci/run: " + command, command.matches("\\.ci/run|javac [^;|]* && java [^;|&]*") ? 1 : 0, 1);
            if (command.equals(".ci/run")) {
                c.due(command + " can be run", Files.isExecutable(Path.of(command)) ? 1 : 0, 1);
                continue;
            }
            List<String> printed = new ArrayList<>();
            c.due("the exit code of " + command, run(command.replace(ROOM, room.toString()), printed), 0);
            if (command.endsWith(" Example")) {
                printsWhatItSays(program, printed);
                exampleRan = true;
            }
            testRan |= command.endsWith("Test");
        }
        c.due("the example was run", exampleRan ? 1 : 0, 1);
        c.due("a test by itself was run", testRan ? 1 : 0, 1);
    }

    private static List<String> blocks(String page, String language) {
        List<String> found = new ArrayList<>();
        Matcher m = BLOCK.matcher(page);
        while (m.find()) {
            if (m.group(1).equals(language)) {
                found.add(m.group(2).strip());
            }
        }
        return found;
    }

    private static String onlyBlock(String page, String language) {
        List<String> found = blocks(page, language);
        c.due("blocks of " + language, found.size(), 1);
        return found.isEmpty() ? "" : found.get(0);
    }

    private static int run(String command, List<String> printed) throws IOException, InterruptedException {
        Process process = new ProcessBuilder("sh", "-c", command).redirectErrorStream(true).start();
        process.getOutputStream().close();
        printed.addAll(new String(process.getInputStream().readAllBytes()).lines().toList());
        int code = process.waitFor();
        if (code != 0) {
            printed.forEach(System.out::println);
        }
        return code;
    }

    private static void printsWhatItSays(String program, List<String> printed) {
        int said = 0;
        for (String line : program.lines().map(String::strip).filter(l -> l.startsWith("say(")).toList()) {
            Matcher m = SAID.matcher(line);
            c.due("an answer stands behind " + line, m.matches() ? 1 : 0, 1);
            if (m.matches() && said < printed.size()) {
                String got = printed.get(said);
                c.due(m.group(1), got.matches("-?\\d+") ? Long.parseLong(got) : Long.MIN_VALUE, Long.parseLong(m.group(2)));
            }
            said++;
        }
        c.due("lines that were printed", printed.size(), said);
    }

    private static void namesEveryCall(String page) {
        c.part("the calls of README.md");
        Set<String> told = new TreeSet<>();
        Matcher m = Pattern.compile("(?m)^\\| `(\\w+)\\(([^)]*)\\)` \\| \\S").matcher(page);
        while (m.find()) {
            c.due(m.group(1) + " is told once", told.add(m.group(1) + "/" + parameters(m.group(2))) ? 1 : 0, 1);
        }
        for (Method method : RabbitList.class.getDeclaredMethods()) {
            if (Modifier.isPublic(method.getModifiers())) {
                String call = method.getName() + "/" + method.getParameterCount();
                c.due(call + " is told", told.remove(call) ? 1 : 0, 1);
            }
        }
        c.due("calls that there are not " + told, told.size(), 0);
    }

    private static int parameters(String text) {
        return text.isEmpty() ? 0 : text.split(", ").length;
    }

    private static void namesEveryRefusal(String page) {
        c.part("the refusals of README.md");
        for (Field field : RabbitList.class.getFields()) {
            Matcher m = Pattern.compile("(?m)^\\| (-\\d+) `" + field.getName() + "` \\| \\S").matcher(page);
            c.due(field.getName(), m.find() ? Long.parseLong(m.group(1)) : 0, constant(field));
        }
        for (int finding = 1; finding <= 5; finding++) {
            String row = "| " + (-1000010 - finding) + " | finding " + finding + ": ";
            c.due(row, page.contains(row) ? 1 : 0, 1);
        }
    }

    private static long constant(Field field) {
        try {
            return field.getInt(null);
        } catch (IllegalAccessException e) {
            throw new IllegalStateException(e);
        }
    }

    private static void namesEveryTest(String page) throws IOException {
        c.part("the tests of README.md");
        Set<String> told = new TreeSet<>();
        Set<Integer> promises = new TreeSet<>();
        Matcher m = Pattern.compile("(?m)^\\| (\\w+Test) \\| (.*) \\|$").matcher(page);
        while (m.find()) {
            told.add(m.group(1));
            addPromises(m.group(2), promises);
        }
        try (Stream<Path> files = Files.list(Path.of("src/test/java"))) {
            for (String name : files.map(f -> f.getFileName().toString()).filter(f -> f.endsWith("Test.java")).toList()) {
                String test = name.replace(".java", "");
                c.due(test + " is told", told.remove(test) ? 1 : 0, 1);
            }
        }
        c.due("tests that there are not " + told, told.size(), 0);
        for (int promise = 1; promise <= 41; promise++) {
            c.due("a test is told for promise " + promise, promises.contains(promise) ? 1 : 0, 1);
        }
    }

    private static void addPromises(String text, Set<Integer> promises) {
        if (!text.startsWith("promise")) {
            return;
        }
        Matcher m = Pattern.compile("(\\d+)(?: to (\\d+))?").matcher(text);
        while (m.find()) {
            int first = Integer.parseInt(m.group(1));
            int last = m.group(2) == null ? first : Integer.parseInt(m.group(2));
            for (int promise = first; promise <= last; promise++) {
                promises.add(promise);
            }
        }
    }

    private static void remove(Path room) throws IOException {
        try (Stream<Path> all = Files.walk(room)) {
            for (Path one : all.sorted(Comparator.reverseOrder()).toList()) {
                Files.delete(one);
            }
        }
    }
}
