import java.io.ByteArrayOutputStream;
import java.io.IOException;
import java.io.PrintStream;
import java.lang.reflect.Method;
import java.lang.reflect.Modifier;
import java.net.URL;
import java.net.URLClassLoader;
import java.nio.charset.StandardCharsets;
import java.nio.file.Files;
import java.nio.file.Path;
import java.util.ArrayList;
import java.util.List;
import java.util.TreeSet;
import java.util.regex.Matcher;
import java.util.regex.Pattern;
import java.util.spi.ToolProvider;

/** What README.md says of the class is so: its example, its calls, its findings and its numbers. */
public final class ReadmeTest {
    private static final Due due = new Due();

    public static void main(String[] args) throws Exception {
        String page = Files.readString(Path.of("README.md"), StandardCharsets.UTF_8);
        example(page);
        calls(page);
        findings(page);
        numbers(page);
        sets();
        noFindings();
        tests(page);
        due.end();
    }

    // ---- the example

    private static void example(String page) throws Exception {
        Matcher block = Pattern.compile("(?s)```java\n(.*?)```").matcher(page);
        due.due("there is an example", block.find() ? 1 : 0, 1);
        String code = block.group(1);
        List<String> told = new ArrayList<>();
        Matcher line = Pattern.compile("println\\(.*// (-?\\d+):").matcher(code);
        while (line.find()) {
            told.add(line.group(1));
        }
        List<String> printed = outputOf(code);
        due.due("the example's answers are told for each line", told.size(), printed.size());
        due.due("there are such lines", told.isEmpty() ? 1 : 0, 0);
        for (int i = 0; i < told.size() && i < printed.size(); i++) {
            due.due("line " + i + " of the example", Long.parseLong(printed.get(i)), Long.parseLong(told.get(i)));
        }
    }

    private static List<String> outputOf(String code) throws Exception {
        Path folder = Files.createTempDirectory("readme");
        Path source = folder.resolve("Example.java");
        try {
            Files.writeString(source, code, StandardCharsets.UTF_8);
            int end = ToolProvider.findFirst("javac").orElseThrow().run(System.out, System.err, "-cp",
                System.getProperty("java.class.path"), "-d", folder.toString(), source.toString());
            due.due("the example compiles", end, 0);
            return end == 0 ? run(folder) : List.of();
        } finally {
            Files.deleteIfExists(source);
            Files.deleteIfExists(folder.resolve("Example.class"));
            Files.deleteIfExists(folder);
        }
    }

    private static List<String> run(Path folder) throws Exception {
        PrintStream out = System.out;
        ByteArrayOutputStream printed = new ByteArrayOutputStream();
        try (URLClassLoader loader = new URLClassLoader(new URL[] {folder.toUri().toURL()})) {
            System.setOut(new PrintStream(printed, true, StandardCharsets.UTF_8));
            loader.loadClass("Example").getMethod("main", String[].class).invoke(null, (Object) new String[0]);
        } finally {
            System.setOut(out);
        }
        return printed.toString(StandardCharsets.UTF_8).lines().toList();
    }

    // ---- the calls

    /** The document's face has the names of the parameters, which the compiled class has not. */
    private static void calls(String page) throws IOException {
        String document = Files.readString(Path.of("../shared/DOC.md"), StandardCharsets.UTF_8);
        TreeSet<String> promised = new TreeSet<>();
        Matcher m = Pattern.compile("(?m)^    public int (\\w+)\\(([^)]*)\\);$").matcher(document);
        while (m.find()) {
            promised.add(m.group(1) + "(" + m.group(2).replaceAll("(int|boolean) ", "") + ")");
        }
        due.due("the document's face was found", promised.size(), 47);
        TreeSet<String> named = new TreeSet<>();
        for (String line : rows(page)) {
            Matcher call = Pattern.compile("`(\\w+\\([a-z, ]*\\))`").matcher(line);
            while (call.find()) {
                due.due(call.group(1) + " stands there once", named.add(call.group(1)) ? 1 : 0, 1);
            }
        }
        due.due("the calls of the page: " + named, named.equals(promised) ? 1 : 0, 1);
        int methods = 0;
        for (Method method : EchoValley.class.getDeclaredMethods()) {
            methods += Modifier.isPublic(method.getModifiers()) ? 1 : 0;
        }
        due.due("as many as the class has", methods, named.size());
    }

    private static List<String> rows(String page) {
        return page.lines().filter(line -> line.startsWith("|")).toList();
    }

    // ---- the findings

    private static void findings(String page) {
        List<Integer> told = new ArrayList<>();
        Matcher m = Pattern.compile("(?m)^\\| (-\\d+) \\| (\\w+) \\|").matcher(page);
        List<String> names = new ArrayList<>();
        while (m.find()) {
            told.add(Integer.parseInt(m.group(1)));
            names.add(m.group(2));
        }
        due.due("the names of findings " + names, names.equals(List.of("BEYOND", "FULL", "KIND", "NONE", "STATE",
            "MISSING", "SIZE")) ? 1 : 0, 1);
        List<Integer> answered = answeredFindings();
        due.due("the findings " + told + " and " + answered, told.equals(answered) ? 1 : 0, 1);
    }

    /** As the page says of each of them: BEYOND, FULL, KIND, NONE, STATE, MISSING, SIZE. */
    private static List<Integer> answeredFindings() {
        List<Integer> answers = new ArrayList<>();
        EchoValley x = new EchoValley();
        answers.add(x.until(0));
        for (int i = 0; i < 40; i++) {
            due.due("say " + i, x.say(Due.LOW, 0, 1, 0, 0), i);
        }
        answers.add(x.say(Due.LOW, 0, 1, 0, 0));
        x.hold(0, 0);
        answers.add(x.as(0, Due.KEPT));
        answers.add(x.crowd());
        answers.add(x.age(0, 0));
        answers.add(x.as(1, Due.ONCE));
        answers.add(x.sheet(0, 8, -1));
        EchoValley y = new EchoValley();
        for (int i = 0; i < 30; i++) {
            y.feed(0, 4);
        }
        due.due("FULL: the tape", y.feed(0, 1), answers.get(1));
        y.sheet(0, 8, 1);
        y.sheet(1, 16, 1);
        due.due("KIND: two sheets", y.copy(0, 0, 1, 0, 1), answers.get(2));
        Due.days(y, 99);
        due.due("STATE: beyond 99", y.days(1), answers.get(4));
        due.due("MISSING: a sheet", y.write(2, 0, 0), answers.get(5));
        return answers;
    }

    // ---- the numbers

    private static void numbers(String page) {
        EchoValley x = new EchoValley();
        for (int i = 0; i < 40; i++) {
            x.say(Due.ONCE, 0, 1, 0, 0);
        }
        ranged(page, "place", i -> x.heard(i, 0));
        ranged(page, "one", i -> x.way(i, i == 5 ? 6 : 5, false));
        ranged(page, "other", i -> x.way(i == 5 ? 6 : 5, i, false));
        ranged(page, "to` of `steps", i -> x.steps(i, i));
        ranged(page, "day", i -> x.rain(i, false));
        ranged(page, "to` of `weather", i -> x.weather(0, i, 0));
        ranged(page, "hour", i -> x.where(0, i));
        ranged(page, "to` of `person", i -> x.person(0, -1, 0, i));
        ranged(page, "when", i -> x.alone(i));
        ranged(page, "saying", i -> x.who(i));
        ranged(page, "kind", i -> x.turn(0, i));
        ranged(page, "word", i -> x.first(0, i));
        ranged(page, "person", i -> x.where(i, 0));
        ranged(page, "she", i -> x.tell(i, i == 0 ? 1 : 0));
        ranged(page, "he", i -> x.tell(i == 0 ? 1 : 0, i));
        ranged(page, "spot", i -> x.hold(i, -1));
        ranged(page, "s", i -> x.sheet(i, 8, 40));
        ranged(page, "t", i -> x.copy(0, 0, i, 0, 40));
        EchoValley y = new EchoValley();
        ranged(page, "loud", i -> y.say(Due.ONCE, 0, i, 0, 0));
        due.due("away", y.person(0, -1, 0, 23), 1);
        due.due("where: away", y.where(0, 7), -1);
        due.due("hold: nothing", y.hold(0, -1), 1);
    }

    private interface Call {
        int of(int i);
    }

    private static void ranged(String page, String name, Call call) {
        Pattern named = Pattern.compile("(?<!of )`" + name + "`");
        for (String line : rows(page)) {
            String[] cells = line.split(" *\\| *");
            if (cells.length == 5 && named.matcher(cells[1]).find() && cells[2].matches("\\d+")) {
                int least = Integer.parseInt(cells[2]);
                int greatest = Integer.parseInt(cells[3]);
                due.due(name + " below the least", call.of(least - 1), Due.BEYOND);
                due.due(name + " the least", call.of(least) == Due.BEYOND ? 1 : 0, 0);
                due.due(name + " the greatest", call.of(greatest) == Due.BEYOND ? 1 : 0, 0);
                due.due(name + " above the greatest", call.of(greatest + 1), Due.BEYOND);
                return;
            }
        }
        due.due("the page has no row of " + name, 0, 1);
    }

    private static void sets() {
        EchoValley x = new EchoValley();
        x.person(0, 5, 7, 7);
        x.person(3, 5, 7, 7);
        int s = x.say(Due.ONCE, 0, 1, 5, 7);
        due.due("9 is the set of 0 and 3", x.said(s), 9);
    }

    private static void noFindings() {
        EchoValley x = new EchoValley();
        x.seed(-1000001);
        due.due("count(6) tells any int", x.count(6), -1000001);
        due.due("so does seed", x.seed(0), -1000001);
        due.due("a fault at byte 7", Due.read(x, "way 0 1x"), -8);
        due.due("none was a finding", x.status(-1), 0);
    }

    /** Each test of the project is told on the page, by its name or between the first and the last of the promises'. */
    private static void tests(String page) throws IOException {
        TreeSet<String> byPromise = new TreeSet<>(List.of("SayingsTest", "HeardTest", "PeopleTest", "WalksTest",
            "TextsTest", "SpotsSheetsTest"));
        try (var files = Files.list(Path.of("src/test/java"))) {
            files.map(file -> file.getFileName().toString()).filter(name -> name.endsWith("Test.java"))
                .map(name -> name.substring(0, name.length() - 5)).filter(name -> !byPromise.contains(name))
                .forEach(name -> due.due(name + " is told", page.contains("`" + name + "`") ? 1 : 0, 1));
        }
    }
}
