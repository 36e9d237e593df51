import java.io.IOException;
import java.lang.reflect.Method;
import java.lang.reflect.Modifier;
import java.nio.file.DirectoryStream;
import java.nio.file.Files;
import java.nio.file.Path;
import java.util.ArrayList;
import java.util.List;

/** What README.md says: its example answers so, and it names every call and every test. */
public final class ReadmeTest extends Check {
    private final String text;
    private final List<String> lines = new ArrayList<>();
    private int next = 0;

    private ReadmeTest(String text) {
        this.text = text;
        for (String line : text.split("\n")) {
            if (line.startsWith("x.")) {
                lines.add(line);
            }
        }
    }

    public static void main(String[] args) throws IOException {
        ReadmeTest test = new ReadmeTest(Files.readString(Path.of("README.md")));
        test.example();
        test.namesEveryCall();
        test.namesEveryTest();
        test.end("ReadmeTest");
    }

    private void example() {
        about("README.md, the example");
        due("the object", text.contains("\nAdaptiveTrees x = new AdaptiveTrees(26);\n") ? 1 : 0, 1);
        AdaptiveTrees x = new AdaptiveTrees(26);
        line("x.form(1, 1);", x.form(1, 1));
        line("x.put(0, 7);", x.put(0, 7));
        line("x.put(0, 7);", x.put(0, 7));
        line("x.put(1, 3);", x.put(1, 3));
        line("x.bits();", x.bits());
        line("x.pull(0);", x.pull(0));
        line("x.pull(0);", x.pull(0));
        line("x.same(0);", x.same(0));
        line("x.same(1);", x.same(1));
        line("x.pull(1);", x.pull(1));
        line("x.pull(1);", x.pull(1));
        line("x.save(0, 0, 0);", x.save(0, 0, 0));
        line("x.restore(0, 1, 2);", x.restore(0, 1, 2));
        line("x.knows(1, 2, 7);", x.knows(1, 2, 7));
        line("x.get(2, false);", x.get(2, false));
        line("x.put(0, 26);", x.put(0, 26));
        due("lines of the example", lines.size(), next);
    }

    /** The example's next line is this call, and the number behind it is the answer. */
    private void line(String call, int got) {
        String line = next < lines.size() ? lines.get(next) : "";
        next++;
        due("line " + next + " is " + call, line.startsWith(call + " ") ? 1 : 0, 1);
        String said = line.replaceFirst("^[^/]*// (-?[0-9]+)(:.*)?$", "$1");
        due("line " + next + ", " + call + " answers " + got + " as '" + said + "'",
                said.equals(Integer.toString(got)) ? 1 : 0, 1);
    }

    private void namesEveryCall() {
        about("README.md, the calls");
        for (Method method : AdaptiveTrees.class.getDeclaredMethods()) {
            if (Modifier.isPublic(method.getModifiers())) {
                due("names " + method.getName(), text.contains("`" + method.getName() + "`") ? 1 : 0, 1);
            }
        }
    }

    private void namesEveryTest() throws IOException {
        about("README.md, the tests");
        try (DirectoryStream<Path> files = Files.newDirectoryStream(Path.of("src/test/java"), "*Test.java")) {
            for (Path file : files) {
                due("names " + file, text.contains(file.getFileName().toString()) ? 1 : 0, 1);
            }
        }
    }
}
