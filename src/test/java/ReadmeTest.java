import java.io.IOException;
import java.lang.reflect.Method;
import java.lang.reflect.Modifier;
import java.nio.file.Files;
import java.nio.file.Path;
import java.util.List;
import java.util.stream.Collectors;
import java.util.stream.Stream;

/** README.md: its example answers what stands there, and it names every call and every test. */
public final class ReadmeTest {
    private static List<String> example;
    private static int place = 0;

    public static void main(String[] args) throws IOException {
        String page = Files.readString(Path.of("README.md"));
        example = linesWithAnswers(page);
        example();
        namesEveryCall(page);
        namesEveryTest(page);
        Check.end("ReadmeTest");
    }

    private static List<String> linesWithAnswers(String page) {
        String block = page.replaceAll("(?s).*```java\n(.*?)```.*", "$1");
        return block.lines().filter(line -> line.matches(".*; +// -?\\d+: .*")).collect(Collectors.toList());
    }

    /** The next line of the example shows this call with this answer. */
    private static void shows(String call, long answer) {
        String line = place < example.size() ? example.get(place) : "";
        place++;
        Check.same("the example's answer " + place, line.replaceAll("; +// ", "; // ").replaceAll("(// -?\\d+):.*", "$1"),
                call + "; // " + answer);
    }

    private static void example() {
        GateMaze maze = new GateMaze();
        shows("maze.set(0, 3, 1)", maze.set(0, 3, 1));
        for (char c : "11-1=0:1".toCharArray()) {
            maze.append(c);
        }
        shows("maze.firstError()", maze.firstError());
        shows("maze.fill()", maze.fill());
        shows("maze.output(0, 6)", maze.output(0, 6));
        shows("maze.product(0, 0, 0)", maze.product(0, 0, 0));
        shows("maze.product(0, 0, 1)", maze.product(0, 0, 1));
        shows("maze.ifForgotten(2, 0)", maze.ifForgotten(2, 0));
        shows("maze.forget(2)", maze.forget(2));
        shows("maze.at(0, 3, 1)", maze.at(0, 3, 1));
        shows("maze.at(0, 3, 2)", maze.at(0, 3, 2));
        shows("maze.ask(3)", maze.ask(3));
        shows("maze.output(0, 8)", maze.output(0, 8));
        shows("maze.output(0, 9)", maze.output(0, 9));
        shows("maze.nearest(0, 0)", maze.nearest(0, 0));
        shows("maze.undo()", maze.undo());
        shows("maze.undo()", maze.undo());
        shows("maze.at(0, 3, 1)", maze.at(0, 3, 1));
        Check.same("answers in the example", example.size(), place);
    }

    private static void namesEveryCall(String page) {
        for (Method method : GateMaze.class.getDeclaredMethods()) {
            if (Modifier.isPublic(method.getModifiers())) {
                Check.holds("README.md names " + method.getName(), page.contains("`" + method.getName() + "`"));
            }
        }
    }

    private static void namesEveryTest(String page) throws IOException {
        try (Stream<Path> tests = Files.list(Path.of("src/test/java"))) {
            for (Path test : tests.sorted().collect(Collectors.toList())) {
                String name = test.getFileName().toString().replace(".java", "");
                Check.holds("README.md names " + name, page.contains("`" + name + "`"));
            }
        }
    }
}
