import java.io.IOException;
import java.lang.reflect.Method;
import java.lang.reflect.Modifier;
import java.nio.file.Files;
import java.nio.file.Path;
import java.util.List;
import java.util.regex.Matcher;
import java.util.regex.Pattern;
import java.util.stream.Collectors;
import java.util.stream.Stream;

/** README.md tells no other answers than the class gives, and leaves out no call and no test. */
public final class ReadmeTest {
    private static final String TEXT = "firm 4 d<5;wind 8";

    private static String example;
    private static int told;

    public static void main(String[] args) throws IOException {
        String readme = Files.readString(Path.of("README.md"));
        Matcher block = Pattern.compile("(?s)```java\n(.*?)```").matcher(readme);
        Due.due("README.md has an example", block.find() ? 1 : 0, 1);
        example = block.group(1);
        example();
        calls(readme);
        tests(readme);
        Due.end();
    }

    /** The next line of the example that tells an answer is this call, and the answer is what the class gives. */
    private static void line(String call, long got) {
        List<String> lines = Stream.of(example.split("\n")).filter(s -> s.contains("//")).collect(Collectors.toList());
        String line = told < lines.size() ? lines.get(told) : "";
        told++;
        Matcher m = Pattern.compile("(.*;) +// (-?\\d+): .*").matcher(line);
        boolean so = m.matches() && m.group(1).equals(call);
        Due.due("'" + call + "' stands in the example, there: '" + line + "'", so ? 1 : 0, 1);
        Due.due("the example's " + call, got, so ? Long.parseLong(m.group(2)) : Long.MIN_VALUE);
    }

    private static void example() {
        MastLeft x = new MastLeft();
        int boom = x.piece(2, 3, 40);
        line("int boom = x.piece(2, 3, 40);", boom);
        int oar = x.piece(1, 5, 9);
        line("int oar = x.piece(1, 5, 9);", oar);
        line("x.hoist(boom);", x.hoist(boom));
        line("x.hoist(oar);", x.hoist(oar));
        line("x.trim(0, 2);", x.trim(0, 2));
        Due.due("the example feeds " + TEXT, example.contains("\"" + TEXT + "\"") ? 1 : 0, 1);
        Due.feed(x, TEXT);
        line("x.ocean();", x.ocean());
        line("x.told(6);", x.told(6));
        line("x.of(boom, 9);", x.of(boom, 9));
        line("x.of(boom, 6);", x.of(boom, 6));
        line("x.first(0);", x.first(0));
        line("x.first(1);", x.first(1));
        line("x.spread();", x.spread());
        line("x.odds(10, 0);", x.odds(10, 0));
        line("x.odds(10, 1);", x.odds(10, 1));
        line("x.image();", x.image());
        line("x.pass(3);", x.pass(3));
        line("x.undo();", x.undo());
        line("x.told(5);", x.told(5));
        line("x.hoist(9);", x.hoist(9));
        Due.due("lines of the example that tell an answer", example.split("//", -1).length - 1, told);
    }

    /** Every call of the class stands in a row of a table. */
    private static void calls(String readme) {
        for (Method m : MastLeft.class.getDeclaredMethods()) {
            if (Modifier.isPublic(m.getModifiers())) {
                boolean so = Pattern.compile("(?m)^\\|[^|]*`" + m.getName() + "`").matcher(readme).find();
                Due.due("README.md names " + m.getName(), so ? 1 : 0, 1);
            }
        }
    }

    /** Every test stands at the head of a row, and no other does. */
    private static void tests(String readme) throws IOException {
        List<String> names;
        try (Stream<Path> files = Files.list(Path.of("src/test/java"))) {
            names = files.map(f -> f.getFileName().toString()).filter(f -> f.endsWith("Test.java"))
                .map(f -> f.replace(".java", "")).collect(Collectors.toList());
        }
        for (String name : names) {
            Due.due("README.md names " + name, readme.contains("\n| `" + name + "` |") ? 1 : 0, 1);
        }
        for (Matcher m = Pattern.compile("(?m)^\\| `(\\w+Test)` \\|").matcher(readme); m.find();) {
            Due.due("there is a " + m.group(1), names.contains(m.group(1)) ? 1 : 0, 1);
        }
    }
}
