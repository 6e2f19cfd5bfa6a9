import java.io.ByteArrayOutputStream;
import java.io.IOException;
import java.io.PrintStream;
import java.lang.reflect.Field;
import java.lang.reflect.Method;
import java.lang.reflect.Modifier;
import java.net.URL;
import java.net.URLClassLoader;
import java.nio.file.Files;
import java.nio.file.Path;
import java.util.ArrayList;
import java.util.List;
import java.util.TreeSet;
import java.util.regex.Matcher;
import java.util.regex.Pattern;
import java.util.stream.Stream;
import javax.tools.ToolProvider;

/** README.md: its example prints what it says, its error codes are the class's, and nothing is left unnamed. */
public final class ReadmeTest {
    private static final Pattern BLOCK = Pattern.compile("(?s)```java\n(.*?)```");
    private static final Pattern PRINTED = Pattern.compile(" *System\\.out\\.println\\((x\\..*)\\); +// (-?\\d+)\\b.*");
    private static final Pattern ROW = Pattern.compile("(?m)^\\| `([A-Z]+)` \\| (-?\\d+) \\|");

    private final String readme;
    private final List<String> calls = new ArrayList<>();
    private final List<Long> due = new ArrayList<>();

    private ReadmeTest(String readme) {
        this.readme = readme;
    }

    public static void main(String[] args) throws Exception {
        ReadmeTest test = new ReadmeTest(Files.readString(Path.of("README.md")));
        test.example();
        test.codes();
        test.methods();
        test.tests();
        Script.end();
    }

    private static void expect(String what, boolean holds) {
        Script.due(what, holds ? 1 : 0, 1);
    }

    private void example() throws Exception {
        Matcher block = BLOCK.matcher(readme);
        expect("README.md has an example", block.find());
        String program = block.group(1);
        expect("README.md has one example", !block.find());
        readAnswers(program);
        compare("the class", printed(program, "Example"));
        String modelled = program.replace("QuadricFlats", "PlainModel").replace("class Example", "class Modelled");
        compare("the plain model", printed(modelled, "Modelled"));
    }

    /** Each line that prints has a call and, behind it, the answer. */
    private void readAnswers(String program) {
        for (String line : program.split("\n")) {
            Matcher printed = PRINTED.matcher(line);
            if (printed.matches()) {
                calls.add(printed.group(1));
                due.add(Long.parseLong(printed.group(2)));
            } else {
                expect("an answer behind " + line.trim(), !line.contains("println"));
            }
        }
        for (long code : new long[] {-1, -101, -102, -103, -104}) {
            expect("the example shows " + code, due.contains(code));
        }
    }

    private void compare(String who, List<String> printed) {
        Script.due("the lines that the example prints by " + who, printed.size(), due.size());
        for (int i = 0; i < Math.min(printed.size(), due.size()); i++) {
            Script.due("README.md, by " + who + ": " + calls.get(i), Long.parseLong(printed.get(i)), due.get(i));
        }
    }

    /** Compiles a program and runs it with classes of its own, so that nothing but the temporary folder is written. */
    private static List<String> printed(String program, String name) throws Exception {
        Path folder = Files.createTempDirectory("readme");
        Path file = folder.resolve(name + ".java");
        Path made = folder.resolve(name + ".class");
        String known = System.getProperty("java.class.path");
        Files.writeString(file, program);
        int failed = ToolProvider.getSystemJavaCompiler().run(null, null, null,
            "-proc:none", "-cp", known, "-d", folder.toString(), file.toString());
        Script.due("compiling " + name, failed, 0);
        List<String> lines = failed == 0 ? run(folder, known, name) : List.of();
        Files.deleteIfExists(made);
        Files.delete(file);
        Files.delete(folder);
        return lines;
    }

    private static List<String> run(Path folder, String known, String name) throws Exception {
        List<URL> places = new ArrayList<>(List.of(folder.toUri().toURL()));
        for (String place : known.split(System.getProperty("path.separator"))) {
            places.add(Path.of(place).toUri().toURL());
        }
        PrintStream before = System.out;
        ByteArrayOutputStream bytes = new ByteArrayOutputStream();
        // without the usual loader as its parent: the model's methods are seen only by classes of the same loader
        try (URLClassLoader loader = new URLClassLoader(places.toArray(new URL[0]), ClassLoader.getPlatformClassLoader());
             PrintStream caught = new PrintStream(bytes, true)) {
            System.setOut(caught);
            loader.loadClass(name).getMethod("main", String[].class).invoke(null, (Object) new String[0]);
        } finally {
            System.setOut(before);
        }
        return bytes.toString().lines().toList();
    }

    private void codes() throws IllegalAccessException {
        TreeSet<String> rows = new TreeSet<>();
        Matcher row = ROW.matcher(readme);
        while (row.find()) {
            rows.add(row.group(1) + " " + row.group(2));
        }
        TreeSet<String> constants = new TreeSet<>();
        for (Field field : QuadricFlats.class.getFields()) {
            constants.add(field.getName() + " " + field.getInt(null));
        }
        expect("README.md has the codes " + constants + ", not " + rows, rows.equals(constants));
    }

    /** Each method of the face is named with its parameters, as the document names them. */
    private void methods() throws IOException {
        int named = 0;
        for (String signature : Document.face()) {
            Matcher method = Pattern.compile("public (?:int|long) (\\w+\\(.*\\))").matcher(signature);
            if (method.matches()) {
                named++;
                String call = method.group(1).replace("int ", "");
                expect("README.md names " + call, readme.contains("`" + call + "`"));
            }
        }
        Script.due("methods of the face", named, publicMethods());
    }

    private static int publicMethods() {
        int found = 0;
        for (Method method : QuadricFlats.class.getDeclaredMethods()) {
            found += Modifier.isPublic(method.getModifiers()) ? 1 : 0;
        }
        return found;
    }

    /** The list of tests names each test of the project and no other one. */
    private void tests() throws IOException {
        TreeSet<String> listed = new TreeSet<>();
        Matcher entry = Pattern.compile("(?m)^- `(\\w+)`: ").matcher(readme);
        while (entry.find()) {
            listed.add(entry.group(1));
        }
        TreeSet<String> there = new TreeSet<>();
        try (Stream<Path> files = Files.list(Path.of("src/test/java"))) {
            files.map(file -> file.getFileName().toString()).filter(name -> name.endsWith("Test.java"))
                .forEach(name -> there.add(name.substring(0, name.length() - 5)));
        }
        expect("README.md lists the tests " + there + ", not " + listed, listed.equals(there));
    }
}
