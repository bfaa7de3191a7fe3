import java.io.IOException;
import java.nio.file.Files;
import java.nio.file.Path;
import java.util.List;

/** The calls of README's example, in its order: each line tells the answer first in its comment. */
public final class ReadmeTest {
    private static final Checks checks = new Checks();
    private static List<String> example;
    private static int next = 0;

    public static void main(String[] args) throws IOException {
        example = exampleOf(Files.readAllLines(Path.of("README.md")));
        checks.sentence("README.md");
        CacheYard yard = new CacheYard();
        dueStatement("CacheYard yard = new CacheYard();");
        yard.make(0, 1, 2, 0, 4);
        dueStatement("yard.make(0, 1, 2, 0, 4);");
        yard.make(1, 0, 4, 2, 4);
        dueStatement("yard.make(1, 0, 4, 2, 4);");
        dueAnswer("access(0x123, true)", yard.access(0x123, true));
        dueAnswer("access(0x12F, false)", yard.access(0x12F, false));
        dueAnswer("place(0, 0, 0, 0)", yard.place(0, 0, 0, 0));
        dueAnswer("place(0, 0, 0, 1)", yard.place(0, 0, 0, 1));
        dueAnswer("place(0, 1, 0, 0)", yard.place(0, 1, 0, 0));
        dueAnswer("flush(0)", yard.flush(0));
        dueAnswer("access(0x120, false)", yard.access(0x120, false));
        dueAnswer("access(0x200, false)", yard.access(0x200, false));
        dueAnswer("access(0x300, false)", yard.access(0x300, false));
        dueAnswer("access(0x120, false)", yard.access(0x120, false));
        dueAnswer("about(0, 2)", yard.about(0, 2));
        dueAnswer("accesses()", yard.accesses());
        dueAnswer("curve(2, 4)", yard.curve(2, 4));
        dueAnswer("best(2, 4)", yard.best(2, 4));
        checks.due("lines of the example", example.size(), next);
        checks.end("ReadmeTest");
    }

    private static List<String> exampleOf(List<String> lines) {
        int from = lines.indexOf("```java") + 1;
        int length = lines.subList(from, lines.size()).indexOf("```");
        return lines.subList(from, from + length).stream().filter(line -> !line.isEmpty()).toList();
    }

    private static String nextLine() {
        String line = next < example.size() ? example.get(next) : "";
        next++;
        return line;
    }

    private static void dueStatement(String statement) {
        checks.dueSame("the example", nextLine().replaceFirst(" *//.*", ""), statement);
    }

    private static void dueAnswer(String call, int answer) {
        String shown = nextLine().replaceFirst(" +// (-?[0-9]+).*", " $1");
        checks.dueSame("the example", shown, "yard." + call + "; " + answer);
    }
}
