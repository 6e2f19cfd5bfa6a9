import java.io.IOException;
import java.nio.file.Files;
import java.nio.file.Path;
import java.util.ArrayList;
import java.util.List;
import java.util.Map;
import java.util.TreeMap;
import java.util.regex.Matcher;
import java.util.regex.Pattern;

/** What the tests read out of ../shared/DOC.md itself; without it they fail. */
final class Document {
    private static final Path PLACE = Path.of("../shared/DOC.md");
    private static final Pattern HEADING = Pattern.compile("## Promise \\d+: (.*)");
    private static final Pattern CODE = Pattern.compile("\\b(UNKNOWN|OUTSIDE|STATE|FULL)\\b");

    private Document() {
    }

    static List<String> lines() throws IOException {
        return Files.readAllLines(PLACE);
    }

    /** The signatures of the public face, without their semicolons. */
    static List<String> face() throws IOException {
        List<String> found = new ArrayList<>();
        boolean inside = false;
        for (String line : lines()) {
            inside = line.startsWith("```") ? !inside : inside;
            if (inside && line.trim().endsWith(";")) {
                found.add(line.trim().substring(0, line.trim().length() - 1));
            }
        }
        return found;
    }

    /** For each method the error codes of its return description, in their order; a second STATE is STATE2. */
    static Map<String, String> codes() throws IOException {
        Map<String, String> found = new TreeMap<>();
        String method = "";
        for (String line : lines()) {
            Matcher heading = HEADING.matcher(line);
            if (heading.matches()) {
                method = heading.group(1);
            } else if (line.startsWith("## ")) {
                method = "";
            }
            if (!method.isEmpty() && line.startsWith("Returns ")) {
                // a description may begin with "Returns", too: the last such line is the return's own
                found.put(method, codesIn(line));
            }
        }
        return found;
    }

    private static String codesIn(String line) {
        List<String> codes = new ArrayList<>();
        Matcher code = CODE.matcher(line);
        while (code.find()) {
            codes.add(codes.contains(code.group()) ? code.group() + "2" : code.group());
        }
        return String.join(" ", codes);
    }
}
