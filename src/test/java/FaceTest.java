import java.io.IOException;
import java.lang.reflect.Constructor;
import java.lang.reflect.Field;
import java.lang.reflect.Method;
import java.lang.reflect.Modifier;
import java.nio.file.Files;
import java.nio.file.Path;
import java.util.ArrayList;
import java.util.Arrays;
import java.util.List;
import java.util.TreeMap;
import java.util.TreeSet;
import java.util.regex.Matcher;
import java.util.regex.Pattern;

/** The public face of the document, and those rules of LANGUAGE.md that can be read off the class and its text. */
public final class FaceTest {
    private static final String FACE = "letter/1 blank/0 fault/0 form/0 about/1 coefficient/2 point/2 value/1 polar/2 "
        + "joined/2 section/2 flats/1 flat/3 near/3 pick/1 gather/1 drop/1 chosen/2 left/1 finish/1 ways/1 put/3 "
        + "swap/2 plus/3 scale/2 times/1 image/0 restore/0 like/0 drawn/3 count/1 digest/0";

    private static final Pattern HEAD = Pattern.compile(
        "(?m)^ +(?:public|private) (?:static )?(?:\\w+(?:\\[\\])? )?(\\w+)\\([^)]*\\) \\{$");

    public static void main(String[] args) throws IOException {
        methods();
        signatures();
        constants();
        nested();
        text();
        makesNothing();
        depth();
        recursion();
        Script.end();
    }

    private static void expect(String what, boolean holds) {
        Script.due(what, holds ? 1 : 0, 1);
    }

    private static void methods() {
        TreeSet<String> face = new TreeSet<>(Arrays.asList(FACE.split(" ")));
        TreeSet<String> seen = new TreeSet<>();
        for (Method method : QuadricFlats.class.getDeclaredMethods()) {
            if (!Modifier.isPrivate(method.getModifiers())) {
                seen.add(method.getName() + "/" + method.getParameterCount());
                expect(method + " is public and not static",
                    Modifier.isPublic(method.getModifiers()) && !Modifier.isStatic(method.getModifiers()));
                boolean isLong = method.getName().equals("digest");
                expect(method + " returns", method.getReturnType() == (isLong ? long.class : int.class));
                for (Class<?> type : method.getParameterTypes()) {
                    expect(method + " takes int", type == int.class);
                }
            }
        }
        expect("the methods " + seen, seen.equals(face));
        Constructor<?>[] constructors = QuadricFlats.class.getDeclaredConstructors();
        expect("one public constructor without parameters", constructors.length == 1
            && Modifier.isPublic(constructors[0].getModifiers()) && constructors[0].getParameterCount() == 0);
        int modifiers = QuadricFlats.class.getModifiers();
        expect("a public final class", Modifier.isPublic(modifiers) && Modifier.isFinal(modifiers));
    }

    /** The document's signatures stand in the class word for word, the parameters' names too. */
    private static void signatures() throws IOException {
        List<String> due = Document.face();
        Script.due("the signatures of the face", due.size(), 34);
        List<String> lines = program().lines().map(String::trim).toList();
        for (String signature : due) {
            boolean isConstants = signature.contains("=");
            expect("the class has " + signature, lines.contains(signature + (isConstants ? ";" : " {")));
        }
    }

    private static void constants() {
        Script.due("NONE", QuadricFlats.NONE, -1);
        Script.due("UNKNOWN", QuadricFlats.UNKNOWN, -101);
        Script.due("OUTSIDE", QuadricFlats.OUTSIDE, -102);
        Script.due("STATE", QuadricFlats.STATE, -103);
        Script.due("FULL", QuadricFlats.FULL, -104);
        TreeSet<String> open = new TreeSet<>();
        for (Field field : QuadricFlats.class.getDeclaredFields()) {
            if (!Modifier.isPrivate(field.getModifiers())) {
                open.add(field.getName());
            }
        }
        expect("the constants " + open, open.equals(new TreeSet<>(List.of("NONE", "UNKNOWN", "OUTSIDE", "STATE", "FULL"))));
    }

    private static void nested() {
        TreeSet<String> face = new TreeSet<>();
        for (String name : FACE.split(" ")) {
            face.add(name.substring(0, name.indexOf('/')));
        }
        List<Class<?>> classes = new ArrayList<>(Arrays.asList(QuadricFlats.class.getDeclaredClasses()));
        expect("at most twelve classes", classes.size() < 12);
        classes.add(QuadricFlats.class);
        for (Class<?> type : classes) {
            int fields = 0;
            for (Field field : type.getDeclaredFields()) {
                boolean isStatic = Modifier.isStatic(field.getModifiers());
                fields += isStatic ? 0 : 1;
                expect(field + " is not a static variable", !isStatic || Modifier.isFinal(field.getModifiers()));
            }
            expect(type + " has at most twenty fields", fields <= 20);
            for (Method method : type.getDeclaredMethods()) {
                expect(method + " has at most seven parameters", method.getParameterCount() <= 7);
                expect(method + " bears no public name",
                    !Modifier.isPrivate(method.getModifiers()) || !face.contains(method.getName()));
            }
            if (type != QuadricFlats.class) {
                expect(type + " is static and not public",
                    Modifier.isStatic(type.getModifiers()) && !Modifier.isPublic(type.getModifiers()));
            }
        }
    }

    private static String program() throws IOException {
        String text = Files.readString(Path.of("src/main/java/QuadricFlats.java"));
        return text.replaceAll("(?s)/\\*.*?\\*/", " ").replaceAll("//[^\n]*", " ");
    }

    private static void text() throws IOException {
        String text = program();
        for (String word : List.of("throw", "throws", "try", "catch", "finally", "synchronized", "assert", "import",
            "package", "Object", "hashCode", "toString", "equals", "Exact", "protected", "new int\\[\\w*\\]\\[")) {
            expect("no " + word, !Pattern.compile("\\b" + word + "\\b").matcher(text).find());
        }
        expect("no lambda and no method reference", !text.contains("->") && !text.contains("::"));
        Matcher library = Pattern.compile("\\b(System|Math|Long|Integer|Arrays|String|StringBuilder)\\.(\\w+)").matcher(text);
        while (library.find()) {
            expect(library.group(), List.of("System.arraycopy", "Math.min", "Long.bitCount").contains(library.group()));
        }
        expect("only plain signs", text.chars().allMatch(sign -> sign == '\n' || sign >= 32 && sign < 127));
    }

    /** All calls of a run live in one room: rows are made with the objects, parts in the constructor, and no more. */
    private static void makesNothing() throws IOException {
        int made = 0;
        for (String line : program().lines().toList()) {
            if (line.contains("new ")) {
                made++;
                expect("made once: " + line.trim(), line.matches(" {8}private final \\w+\\[\\] \\w+ = new \\w+\\[[A-Z_]+\\];")
                    || line.matches(" {8}\\w+ = new \\w+\\([a-z, ]*\\);"));
            }
        }
        expect("what is made is found", made > 20);
    }

    /** Rule 8 allows "a private static method that calls itself". */
    private static void recursion() throws IOException {
        String text = program();
        int found = 0;
        Matcher heads = HEAD.matcher(text);
        TreeMap<String, StringBuilder> bodies = bodies();
        while (heads.find()) {
            String name = heads.group(1);
            if (Pattern.compile("(?<!\\w\\.)\\b" + name + "\\(").matcher(bodies.get(name)).find()) {
                found++;
                expect(name + " is private and static", heads.group().trim().startsWith("private static "));
            }
        }
        Script.due("methods that call themselves", found, 1);
    }

    /** No chain of calls, but for walk's own, is deeper than eight. */
    private static void depth() throws IOException {
        TreeMap<String, StringBuilder> bodies = bodies();
        expect("the methods are found", bodies.size() > 60);
        for (String method : bodies.keySet()) {
            int deep = deepest(bodies, method, 0);
            expect(method + " goes " + deep + " deep", deep <= 8);
        }
    }

    /** Each method's text, under its name: two of the same name are one. */
    private static TreeMap<String, StringBuilder> bodies() throws IOException {
        String text = program();
        Matcher heads = HEAD.matcher(text);
        TreeMap<String, StringBuilder> bodies = new TreeMap<>();
        String last = null;
        int from = 0;
        while (heads.find()) {
            if (last != null) {
                note(bodies, last, text.substring(from, heads.start()));
            }
            last = heads.group(1);
            from = heads.end();
        }
        note(bodies, last, text.substring(from));
        return bodies;
    }

    private static void note(TreeMap<String, StringBuilder> bodies, String method, String body) {
        expect(method + " is short", body.split("\n").length <= 62);
        bodies.computeIfAbsent(method, name -> new StringBuilder()).append(body);
    }

    private static int deepest(TreeMap<String, StringBuilder> bodies, String method, int above) {
        if (above > 20) {
            return 100;
        }
        int deepest = 0;
        Matcher calls = Pattern.compile("\\b(\\w+)\\(").matcher(bodies.get(method));
        TreeSet<String> seen = new TreeSet<>();
        while (calls.find()) {
            String called = calls.group(1);
            boolean counts = bodies.containsKey(called) || List.of("bitCount", "min", "arraycopy").contains(called);
            if (counts && !called.equals("walk") | !method.equals("walk") && seen.add(called)) {
                int below = bodies.containsKey(called) ? deepest(bodies, called, above + 1) : 1;
                deepest = Math.max(deepest, below);
            }
        }
        return deepest + 1;
    }
}
