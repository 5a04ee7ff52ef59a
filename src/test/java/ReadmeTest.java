import java.io.ByteArrayOutputStream;
import java.io.IOException;
import java.io.PrintStream;
import java.nio.file.Files;
import java.nio.file.Path;
import java.util.List;

/** README.md has the face in the document's words, and its example is one that runs and prints what is shown. */
public final class ReadmeTest {
    private static final String DOCUMENT = "../shared/DOC.md";
    private static final String README = "README.md";
    private static final String EXAMPLE = "src/test/java/ReadmeExample.java";

    private ReadmeTest() {
    }

    public static void main(String[] args) throws IOException {
        String readme = Files.readString(Path.of(README));
        face(plain(readme));
        Check.that("the example is the one that is compiled", Files.readString(Path.of(EXAMPLE)), shown(readme, "java"));
        Check.that("what it prints", shown(readme, "text"), printed());
        tests(readme);
        System.exit(Check.closed("ReadmeTest"));
    }

    /** What stands between "```kind" and "```". */
    private static String shown(String readme, String kind) {
        String head = "```" + kind + "\n";
        int start = readme.indexOf(head);
        int end = start < 0 ? -1 : readme.indexOf("```", start + head.length());
        return end < 0 ? "nothing" : readme.substring(start + head.length(), end);
    }

    private static String printed() {
        PrintStream before = System.out;
        ByteArrayOutputStream bytes = new ByteArrayOutputStream();
        System.setOut(new PrintStream(bytes, true));
        try {
            ReadmeExample.main(new String[0]);
        } finally {
            System.setOut(before);
        }
        return bytes.toString().replace("\r\n", "\n");
    }

    /** Lines that are broken elsewhere are the same. */
    private static String plain(String text) {
        return text.replaceAll("\\s+", " ");
    }

    private static void face(String readme) throws IOException {
        String[] promises = Files.readString(Path.of(DOCUMENT)).split("\n## ");
        int count = 0;
        for (String promise : promises) {
            if (!promise.startsWith("Promise ")) continue;
            count++;
            promise(promise.lines().skip(1).filter(line -> !line.isBlank() && !line.startsWith("---- ")).toList(), readme);
        }
        Check.that("promises", 50, count);
    }

    private static void promise(List<String> lines, String readme) {
        String call = lines.get(0).replaceAll("`| throws .*", "");
        int start = readme.indexOf("- `" + call + "`:");
        Check.that(call + " is there", true, start >= 0);
        int end = readme.indexOf(" - `", start + 1);
        String entry = start < 0 ? "" : readme.substring(start, end < 0 ? readme.length() : end);
        for (String line : lines.subList(1, lines.size())) {
            String words = plain(line.replaceAll("^- |^Throws ", ""));
            Check.that(call + ": " + words, true, entry.contains(words));
        }
    }

    /** Each test of the project is told of, and there is no other one. */
    private static void tests(String readme) throws IOException {
        try (var files = Files.list(Path.of("src/test/java"))) {
            for (Path file : files.sorted().toList()) {
                String name = file.getFileName().toString().replace(".java", "");
                if (name.endsWith("Test")) Check.that(name + " is told of", true, readme.contains("| `" + name + "` |"));
            }
        }
        for (String line : readme.split("\n")) {
            if (!line.startsWith("| `")) continue;
            String name = line.substring(3, line.indexOf('`', 3));
            Check.that(name + " is a test", true, Files.exists(Path.of("src/test/java/" + name + ".java")));
        }
    }
}
