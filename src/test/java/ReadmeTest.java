import java.io.IOException;
import java.lang.reflect.Method;
import java.lang.reflect.Modifier;
import java.nio.file.Files;
import java.nio.file.Path;
import java.util.List;
import java.util.regex.Matcher;
import java.util.regex.Pattern;
import java.util.stream.Collectors;
import java.util.stream.Stream;

/** README.md's example is run here as it stands there; its tables name every call, exception and test. */
public final class ReadmeTest extends Check {
    private static final Path TESTS = Path.of("src/test/java");

    public static void main(String[] args) throws IOException {
        String readme = Files.readString(Path.of("README.md"));
        example();
        exampleIsRunHere(readme);
        calls(readme);
        bytesFromElsewhere();
        behindABadTile();
        tests(readme);
        end("ReadmeTest");
    }

    private static void example() {
        MixedPredict x = new MixedPredict(16, 12, 8, 3);
        x.paint(7, 3);
        int bytes = x.encode();
        x.pass();
        int samples = x.decode();
        int first = x.at(0, 0, 0);
        due("bytes", bytes, x.told(1));
        due("samples", samples, 16 * 12 * 3);
        due("first", first, 7);
        due("behind the last byte", answer(() -> x.byteAt(bytes)), INDEX);
        due("the last byte", answer(() -> x.byteAt(bytes - 1) >= 0), true);
    }

    private static void exampleIsRunHere(String readme) throws IOException {
        String here = Files.readString(TESTS.resolve("ReadmeTest.java"));
        Matcher block = Pattern.compile("(?s)```java\n(.*?)```").matcher(readme);
        due("README.md has an example", block.find(), true);
        for (String line : block.group(1).split("\n")) {
            String code = line.replaceAll("//.*", "").trim();
            due("is run here: " + code, here.contains("        " + code + "\n"), true);
        }
    }

    private static void calls(String readme) {
        for (Method method : MixedPredict.class.getDeclaredMethods()) {
            if (!Modifier.isPublic(method.getModifiers())) {
                continue;
            }
            List<String> rows = readme.lines().filter(l -> l.startsWith("| `" + method.getName() + "(")).toList();
            due("rows of " + method.getName(), rows.size(), 1);
            for (String row : rows) {
                String[] cells = row.split("\\|");
                due("parameters of " + method.getName(), parameters(cells[1]), method.getParameterCount());
                due("exceptions of " + method.getName(), kinds(cells[3]), Stream.of(method.getExceptionTypes())
                        .map(e -> e.getSimpleName()).collect(Collectors.joining(" ")));
            }
        }
    }

    private static int parameters(String cell) {
        String between = cell.substring(cell.indexOf('(') + 1, cell.indexOf(')'));
        return between.isEmpty() ? 0 : between.split(",").length;
    }

    private static String kinds(String cell) {
        Matcher kind = Pattern.compile("(index|argument|unsupported):").matcher(cell);
        return kind.results().map(k -> switch (k.group(1)) {
            case "index" -> "IndexOutOfBoundsException";
            case "argument" -> "IllegalArgumentException";
            default -> "UnsupportedOperationException";
        }).collect(Collectors.joining(" "));
    }

    private static void bytesFromElsewhere() {
        MixedPredict from = new MixedPredict(9, 5, 4, 2);
        from.paint(3, 5);
        int bytes = from.encode();
        MixedPredict to = new MixedPredict(9, 5, 4, 2);
        for (int i = 0; i < bytes; i++) {
            to.feed(from.byteAt(i));
        }
        due("samples from elsewhere", to.decode(), 90);
        for (int i = 0; i < 90; i++) {
            due("sample " + i + " from elsewhere", to.at(i / 2 % 9, i / 18, i % 2), (3 + 5 * i) % 16);
        }
    }

    private static void behindABadTile() {
        MixedPredict x = new MixedPredict(9, 1, 8, 1);
        feedTile(x, 0, 1, 2, 3, 4, 5, 6, 7, 8);
        feedTile(x, 2, 9);
        due("the second tile is bad", x.decode(), -2);
        samples("behind a bad tile", x, 1, 2, 3, 4, 5, 6, 7, 8, 0);
        due("left to be read", x.told(2), 0);
    }

    private static void tests(String readme) throws IOException {
        try (Stream<Path> files = Files.list(TESTS)) {
            for (Path file : files.toList()) {
                String name = file.getFileName().toString().replace(".java", "");
                due("names " + name, readme.contains("- `" + name + "`"), true);
            }
        }
    }
}
