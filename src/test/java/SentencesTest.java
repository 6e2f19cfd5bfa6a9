import java.io.IOException;
import java.nio.file.Files;
import java.nio.file.Path;
import java.util.ArrayList;
import java.util.List;
import java.util.Map;
import java.util.TreeMap;
import java.util.regex.Matcher;
import java.util.regex.Pattern;

/**
 * src/test/sentences.txt has each sentence of the document in its order, behind "> ", and below it runs of its own;
 * a sentence that asks nothing of the program has "-" there. This test reads the document itself, so that no sentence
 * can be left out, and runs the runs and the document's examples.
 */
public final class SentencesTest {
    private static final Path SENTENCES = Path.of("src/test/sentences.txt");
    private static final Pattern REPEATED = Pattern.compile("(\\d+) \\* (.*)");
    private static final Pattern FORM = Pattern.compile("([A-Z]+\\d?) : (.*)");
    private static final Pattern EXAMPLE = Pattern.compile("\\d\\. .*?: (letter\\(.*)\\.");

    private final Map<String, String> forms = new TreeMap<>();
    private final List<String> sentences = new ArrayList<>();
    private String promise = "";
    private int runs = 0;
    /** The runs below the last sentence, "-" among them. */
    private int below = 1;

    public static void main(String[] args) throws IOException {
        SentencesTest test = new SentencesTest();
        test.read(Files.readAllLines(SENTENCES));
        Script.due("there are more runs than sentences", test.runs > test.sentences.size() ? 1 : 0, 1);
        List<String> document = Document.lines();
        test.compare(sentencesOf(document));
        Script.due("the examples", examples(document), 3);
        Script.end();
    }

    private void compare(List<String> due) {
        Script.due("the number of sentences", sentences.size(), due.size());
        for (int i = 0; i < Math.min(due.size(), sentences.size()); i++) {
            Script.due("the document has \"" + due.get(i) + "\" and not \"" + sentences.get(i) + "\": it",
                due.get(i).equals(sentences.get(i)) ? 1 : 0, 1);
        }
    }

    /** Headings and what ends with a full stop or a semicolon, from the Description to what is not promised. */
    private static List<String> sentencesOf(List<String> lines) {
        List<String> found = new ArrayList<>();
        boolean inside = false;
        for (String raw : lines) {
            String line = raw.trim();
            if (line.startsWith("## ")) {
                inside = line.equals("## Description") || line.startsWith("## Promise ");
            }
            boolean isExample = EXAMPLE.matcher(line).matches();
            boolean isText = !line.isEmpty() && !line.startsWith("`") && !line.startsWith("----") && !isExample;
            if (inside && isText) {
                found.addAll(List.of(line.split("(?<=[.;])\\s+")));
            }
        }
        return found;
    }

    private static int examples(List<String> lines) {
        int found = 0;
        for (String line : lines) {
            Matcher example = EXAMPLE.matcher(line.trim());
            if (example.matches()) {
                found++;
                Script.run("the document's example " + found, example.group(1));
            }
        }
        return found;
    }

    private void read(List<String> lines) {
        for (String line : lines) {
            Matcher form = FORM.matcher(line);
            if (line.startsWith("## ") || line.startsWith("> ")) {
                begin(line);
            } else if (form.matches()) {
                forms.put(form.group(1), form.group(2));
            } else if (!line.isBlank()) {
                below++;
                go(line);
            }
        }
        begin("## the end");
        sentences.remove(sentences.size() - 1);
    }

    private void begin(String line) {
        Script.due("a run below \"" + (sentences.isEmpty() ? "" : sentences.get(sentences.size() - 1)) + "\"",
            below > 0 ? 1 : 0, 1);
        boolean isHeading = line.startsWith("## ");
        promise = isHeading ? line.substring(3) : promise;
        below = isHeading ? 1 : 0;
        sentences.add(isHeading ? line : line.substring(2));
    }

    private void go(String line) {
        if (line.equals("-")) {
            return;
        }
        runs++;
        String sentence = sentences.isEmpty() ? "" : sentences.get(sentences.size() - 1);
        Script.run(promise + ", \"" + sentence + "\", " + line, unfolded(line));
    }

    /** A form's name stands for its text and form(), "n * call" for n calls. */
    private String unfolded(String line) {
        StringBuilder calls = new StringBuilder();
        for (String part : line.split(";")) {
            String step = part.trim();
            Matcher repeated = REPEATED.matcher(step);
            if (repeated.matches()) {
                calls.append((repeated.group(2) + "; ").repeat(Integer.parseInt(repeated.group(1))));
            } else {
                calls.append(forms.getOrDefault(step, step)).append("; ");
            }
        }
        return calls.toString();
    }
}
