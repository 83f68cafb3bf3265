import java.io.ByteArrayOutputStream;
import java.io.IOException;
import java.io.PrintStream;
import java.nio.charset.StandardCharsets;
import java.nio.file.Files;
import java.nio.file.Path;

/** README.md shows the program as it is, prints what it prints, and names each call of the face. */
public final class ReadmeTest {
    private static final String[] CALLS = {"person", "earn", "die", "circle", "enter", "start", "want", "meet",
        "leave", "buy", "borrow", "repay", "month", "feast", "note", "audit", "of", "member", "ofCircle", "cash",
        "coins"};

    private ReadmeTest() {
    }

    public static void main(String[] args) throws IOException {
        String readme = textOf("README.md");
        Check.due("the program", block(readme, "java"), textOf("src/test/java/Example.java"));
        Check.due("what it prints", block(readme, "text"), printed());
        for (String call : CALLS) {
            Check.due("README.md tells of " + call, readme.contains("`" + call + "(") ? 1 : 0, 1);
        }
        Check.due("how to run the tests", readme.contains("bash .ci/run") ? 1 : 0, 1);
        Check.end("ReadmeTest");
    }

    private static String textOf(String file) throws IOException {
        return Files.readString(Path.of(file), StandardCharsets.UTF_8);
    }

    /** The first block of its kind, without the fences. */
    private static String block(String readme, String kind) {
        String opening = "\n```" + kind + "\n";
        int begin = readme.indexOf(opening);
        int end = begin < 0 ? -1 : readme.indexOf("\n```\n", begin + opening.length());
        return end < 0 ? "" : readme.substring(begin + opening.length(), end + 1);
    }

    private static String printed() {
        PrintStream before = System.out;
        ByteArrayOutputStream bytes = new ByteArrayOutputStream();
        System.setOut(new PrintStream(bytes, true, StandardCharsets.UTF_8));
        Example.main(new String[0]);
        System.setOut(before);
        return bytes.toString(StandardCharsets.UTF_8).replace("\r\n", "\n");
    }
}
