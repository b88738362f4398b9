import java.io.IOException;
import java.lang.reflect.Method;
import java.lang.reflect.Modifier;
import java.net.URL;
import java.net.URLClassLoader;
import java.nio.charset.StandardCharsets;
import java.nio.file.Files;
import java.nio.file.Path;
import java.util.ArrayList;
import java.util.List;
import java.util.Set;
import java.util.TreeSet;
import java.util.function.Consumer;
import java.util.regex.Matcher;
import java.util.regex.Pattern;
import java.util.stream.Stream;
import javax.tools.ToolProvider;

/** README.md: its examples are compiled as one program, and each call there must answer as it says. */
public final class ReadmeTests {
    private static final Path PAGE = Path.of("README.md");
    private static final Path TESTS = Path.of("src/test/java");
    private static final Pattern BLOCK = Pattern.compile("(?s)```java\n(.*?)```");
    private static final Pattern SHOWN = Pattern.compile("(x\\.(\\w+)\\(.*\\));\\s*// (-?\\d+|BAD|NO|FULL|NONE)(:.*)?");
    private static final Pattern TEST = Pattern.compile("(?m)^\\| `(\\w+Tests)` \\|");
    private static final Check CHECK = new Check();

    private static int calls;

    public static void main(String[] args) throws Exception {
        String page = Files.readString(PAGE, StandardCharsets.UTF_8);
        Set<String> shown = new TreeSet<>();
        String program = programOf(page, shown);
        run(program);
        CHECK.holds("examples are found", calls > 60);
        CHECK.holds("calls that no example shows: " + without(face(), shown), shown.containsAll(face()));
        CHECK.holds("the tests that it names: " + named(page), named(page).equals(tests()));
        CHECK.holds("it names .ci/run, which can be run", page.contains("\n.ci/run\n") && Files.isExecutable(Path.of(".ci/run")));
        CHECK.holds("its examples are calls that one object has: " + calls, calls <= 512);
        CHECK.end("ReadmeTests");
    }

    /** The examples, one behind the other; a call with an answer behind it becomes a check of it. */
    private static String programOf(String page, Set<String> shown) {
        StringBuilder program = new StringBuilder();
        program.append("import java.util.function.Consumer;\npublic final class Shown {\n");
        for (String constant : new String[] {"BAD", "NO", "FULL", "NONE"}) {
            program.append("static final int ").append(constant).append(" = HeardBackward.").append(constant).append(";\n");
        }
        program.append("static Consumer<String> told;\n");
        program.append("static void due(String call, int got, int want) {\n");
        program.append("told.accept(call + ' ' + got + ' ' + want);\n}\n");
        program.append("public static void all(Consumer<String> to) {\ntold = to;\n");
        Matcher block = BLOCK.matcher(page);
        while (block.find()) {
            for (String line : block.group(1).split("\n")) {
                program.append(lineOf(line, shown)).append('\n');
            }
        }
        return program.append("}\n}\n").toString();
    }

    private static String lineOf(String line, Set<String> shown) {
        Matcher m = SHOWN.matcher(line);
        if (m.matches()) {
            shown.add(m.group(2));
            String call = m.group(1).replace(" ", "");
            return "due(\"" + call + "\", " + m.group(1) + ", " + m.group(3) + ");";
        }
        Matcher unanswered = Pattern.compile("x\\.(\\w+)\\(").matcher(line);
        if (unanswered.find()) {
            CHECK.holds("an example without its answer: " + line, line.startsWith("for ("));
            calls += line.length();
        }
        return line;
    }

    private static void run(String program) throws Exception {
        Path place = Files.createTempDirectory("readme");
        Path source = place.resolve("Shown.java");
        try {
            Files.writeString(source, program, StandardCharsets.UTF_8);
            int ended = ToolProvider.getSystemJavaCompiler().run(null, null, null, "-d", place.toString(),
                    "-cp", System.getProperty("java.class.path"), source.toString());
            CHECK.holds("the examples compile", ended == 0);
            if (ended == 0) {
                call(place);
            }
        } finally {
            remove(place);
        }
    }

    private static void call(Path place) throws Exception {
        try (URLClassLoader loader = new URLClassLoader(new URL[] {place.toUri().toURL()})) {
            Consumer<String> told = ReadmeTests::heard;
            loader.loadClass("Shown").getMethod("all", Consumer.class).invoke(null, told);
        }
    }

    private static void heard(String row) {
        String[] parts = row.split(" ");
        calls++;
        CHECK.due("README.md: " + parts[0], Integer.parseInt(parts[1]), Integer.parseInt(parts[2]));
    }

    private static void remove(Path place) throws IOException {
        List<Path> all;
        try (Stream<Path> files = Files.list(place)) {
            all = new ArrayList<>(files.toList());
        }
        all.add(place);
        for (Path file : all) {
            Files.deleteIfExists(file);
        }
    }

    private static Set<String> face() {
        Set<String> names = new TreeSet<>();
        for (Method m : HeardBackward.class.getDeclaredMethods()) {
            if (Modifier.isPublic(m.getModifiers())) {
                names.add(m.getName());
            }
        }
        return names;
    }

    private static Set<String> without(Set<String> all, Set<String> some) {
        Set<String> rest = new TreeSet<>(all);
        rest.removeAll(some);
        return rest;
    }

    private static Set<String> named(String page) {
        Set<String> names = new TreeSet<>();
        Matcher m = TEST.matcher(page);
        while (m.find()) {
            names.add(m.group(1));
        }
        return names;
    }

    private static Set<String> tests() throws IOException {
        try (Stream<Path> files = Files.list(TESTS)) {
            Set<String> names = new TreeSet<>();
            files.map(file -> file.getFileName().toString()).filter(name -> name.endsWith("Tests.java"))
                    .forEach(name -> names.add(name.substring(0, name.indexOf('.'))));
            return names;
        }
    }
}
