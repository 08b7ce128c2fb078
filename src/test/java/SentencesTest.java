import java.io.IOException;
import java.nio.file.DirectoryStream;
import java.nio.file.Files;
import java.nio.file.Path;
import java.util.ArrayList;
import java.util.List;
import java.util.Map;
import java.util.TreeMap;
import java.util.regex.Matcher;
import java.util.regex.Pattern;

/** Every word of the document's terms and promises stands in the says(..) of a test, and no test quotes what is not there. */
public final class SentencesTest {
    private static final Path DOCUMENT = Path.of("../shared/DOC.md");
    private static final Pattern QUOTE = Pattern.compile("Check\\.says\\((\\d+), \"([^\"]*)\"\\)");
    private static final Pattern PROMISE = Pattern.compile("## Promise (\\d+): \\w+.*");
    private static final int PROMISES = 36;

    private final Map<Integer, String> sections = new TreeMap<>();
    private final Map<Integer, boolean[]> quoted = new TreeMap<>();

    public static void main(String[] args) throws IOException {
        if (!Files.isReadable(DOCUMENT)) {
            System.out.println("there is no " + DOCUMENT + ": nothing is looked at");
            return;
        }
        SentencesTest test = new SentencesTest();
        test.readDocument(Files.readAllLines(DOCUMENT));
        for (Path file : testFiles()) test.readQuotes(file);
        test.tellUnquoted();
        Check.end();
    }

    private static List<Path> testFiles() throws IOException {
        List<Path> files = new ArrayList<>();
        try (DirectoryStream<Path> all = Files.newDirectoryStream(Path.of("src/test/java"), "*Test.java")) {
            for (Path file : all) files.add(file);
        }
        return files;
    }

    /** Section 0: what stands ahead of the promises and is promised; then a section a promise. */
    private void readDocument(List<String> lines) {
        int at = -1;
        for (String line : lines) {
            Matcher promise = PROMISE.matcher(line);
            if (line.startsWith("An object is used")) add(0, line);
            if (line.startsWith("## ")) at = line.equals("## Terms") ? 0 : promise.matches() ? Integer.parseInt(promise.group(1)) : -1;
            else if (at >= 0 && !line.startsWith("```") && !line.startsWith("Ahead of the calls")) add(at, line);
        }
        Check.due("sections of the document", sections.size(), PROMISES + 1);
        for (Map.Entry<Integer, String> one : sections.entrySet()) quoted.put(one.getKey(), new boolean[one.getValue().length()]);
    }

    private void add(int section, String line) {
        String text = line.replaceFirst("^==== \\d+ ", "").replaceFirst("^`[^`]*`: ", "").trim().replaceAll("\\s+", " ");
        sections.merge(section, text, (was, more) -> (was + " " + more).trim());
    }

    private void readQuotes(Path file) throws IOException {
        Matcher quote = QUOTE.matcher(Files.readString(file));
        while (quote.find()) mark(file, Integer.parseInt(quote.group(1)), quote.group(2));
    }

    private void mark(Path file, int section, String words) {
        String text = sections.getOrDefault(section, "");
        int from = text.indexOf(words);
        Check.holds(file.getFileName() + " quotes of " + section + ": " + words, from >= 0);
        for (; from >= 0; from = text.indexOf(words, from + 1)) {
            for (int k = 0; k < words.length(); k++) quoted.get(section)[from + k] = true;
        }
    }

    private void tellUnquoted() {
        for (int section : sections.keySet()) {
            String text = sections.get(section);
            StringBuilder left = new StringBuilder();
            for (int k = 0; k < text.length(); k++) left.append(quoted.get(section)[k] ? ' ' : text.charAt(k));
            String words = left.toString().replaceAll("[^A-Za-z0-9]+", " ").trim();
            Check.same("words of section " + section + " that no test quotes", words, "");
        }
    }
}
