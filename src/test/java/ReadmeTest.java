import java.io.IOException;
import java.net.URL;
import java.net.URLClassLoader;
import java.nio.file.Files;
import java.nio.file.Path;
import java.util.ArrayList;
import java.util.List;
import java.util.regex.Matcher;
import java.util.regex.Pattern;
import java.util.stream.Stream;
import javax.tools.ToolProvider;

/** The examples under "Use" in README.md, compiled and run as one program: each call answers what stands behind it. */
public final class ReadmeTest {
    /** A call of x, with its answer at the beginning of the comment. */
    private static final Pattern ROW = Pattern.compile("(x\\.\\w+\\(.*\\)); +// (-?\\d+|[A-Z]{4,})\\b.*");
    private static final int FEWEST_ROWS = 25;

    private static int found = 0;

    public static void main(String[] args) throws IOException, ReflectiveOperationException {
        String program = programOf(Files.readAllLines(Path.of("README.md")));
        Check.holds("the examples are found: " + found, found >= FEWEST_ROWS);
        Path room = Files.createTempDirectory("readme");
        try {
            run(room, program);
        } finally {
            remove(room);
        }
        Check.end();
    }

    private static String programOf(List<String> lines) {
        StringBuilder program = new StringBuilder("public final class Examples { public static void run(java.util.List<Object[]> rows) {\n");
        boolean use = false;
        boolean code = false;
        for (String line : lines) {
            if (line.startsWith("## ")) use = line.equals("## Use");
            if (line.startsWith("```")) code = line.equals("```java");
            else if (use && code) program.append(asked(line)).append('\n');
        }
        return program.append("} }\n").toString();
    }

    private static String asked(String line) {
        Matcher row = ROW.matcher(line);
        if (!row.matches()) {
            Check.holds("a call without its answer: " + line, !line.startsWith("x."));
            return line;
        }
        found++;
        String want = Character.isLetter(row.group(2).charAt(0)) ? "CenturyPosts." + row.group(2) : row.group(2);
        return "rows.add(new Object[] {\"" + row.group(1) + "\", (long) " + row.group(1) + ", (long) " + want + "});";
    }

    private static void run(Path room, String program) throws IOException, ReflectiveOperationException {
        Path source = room.resolve("Examples.java");
        Files.writeString(source, program);
        int failed = ToolProvider.getSystemJavaCompiler().run(null, null, null,
            "-cp", System.getProperty("java.class.path"), "-d", room.toString(), source.toString());
        Check.due("compiling the examples", failed, 0);
        if (failed != 0) return;
        try (URLClassLoader loader = new URLClassLoader(new URL[] {room.toUri().toURL()})) {
            List<Object[]> rows = new ArrayList<>();
            loader.loadClass("Examples").getMethod("run", List.class).invoke(null, rows);
            for (Object[] row : rows) Check.due("README.md: " + row[0], (Long) row[1], (Long) row[2]);
            Check.due("examples that were run", rows.size(), found);
        }
    }

    private static void remove(Path room) throws IOException {
        List<Path> inside;
        try (Stream<Path> all = Files.list(room)) {
            inside = all.toList();
        }
        for (Path file : inside) Files.delete(file);
        Files.delete(room);
    }
}
