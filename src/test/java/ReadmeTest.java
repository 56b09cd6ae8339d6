import java.io.IOException;
import java.lang.reflect.Method;
import java.lang.reflect.Modifier;
import java.nio.charset.StandardCharsets;
import java.nio.file.Files;
import java.nio.file.Path;
import java.util.ArrayList;
import java.util.List;
import java.util.TreeSet;
import java.util.regex.Matcher;
import java.util.regex.Pattern;
import java.util.stream.Stream;

/** What README.md shows of the class's use and says of its tests. */
public final class ReadmeTest {
    private static final String PROGRAM = "src/main/java/RatherDesk.java";
    private static final String USE = "## How to use it";
    private static final String TESTS = "## How to run its tests";

    /** The lines of a section, from its heading to the next one. */
    private static List<String> section(String heading) throws IOException {
        List<String> lines = new ArrayList<>();
        boolean inside = false;
        for (String line : Files.readAllLines(Path.of("README.md"), StandardCharsets.US_ASCII)) {
            inside = line.startsWith("## ") ? line.equals(heading) : inside;
            if (inside) {
                lines.add(line);
            }
        }
        Check.due("lines under " + heading, true, lines.size() > 2);
        return lines;
    }

    /** The lines of all blocks of a kind in a section. */
    private static List<String> blocks(List<String> section, String kind) {
        List<String> lines = new ArrayList<>();
        boolean inside = false;
        for (String line : section) {
            if (line.startsWith("```")) {
                inside = line.equals("```" + kind);
            } else if (inside) {
                lines.add(line);
            }
        }
        Check.due("lines of " + kind, true, lines.size() > 0);
        return lines;
    }

    /** The answers that stand behind the calls that print, up to a colon. */
    private static String answers(List<String> program) {
        StringBuilder answers = new StringBuilder();
        for (String line : program) {
            if (line.contains("print")) {
                int at = line.indexOf(" // ");
                Check.due("an answer behind " + line, true, at > 0);
                answers.append(line.substring(at + 4).replaceAll(":.*", "")).append('\n');
            }
        }
        return answers.toString();
    }

    private static void use() throws IOException, InterruptedException {
        List<String> section = section(USE);
        List<String> program = blocks(section, "java");
        Workshop shop = new Workshop();
        shop.copy(PROGRAM, PROGRAM);
        shop.write("Example.java", String.join("\n", program) + "\n");
        for (String line : blocks(section, "sh")) {
            Check.due(line, 0, shop.run(line.split(" ")));
        }
        shop.remove();
        Check.same("what the program of README.md prints", answers(program), shop.printed);
    }

    private static void wholeFace() throws IOException {
        String program = String.join("\n", blocks(section(USE), "java"));
        for (Method method : RatherDesk.class.getDeclaredMethods()) {
            if (Modifier.isPublic(method.getModifiers())) {
                String call = "desk." + method.getName() + "(";
                Check.due(call + " in README.md", true, program.contains(call));
            }
        }
    }

    /** README.md names the tests that there are, and none that there is not. */
    private static void namesOfTests() throws IOException {
        TreeSet<String> there = new TreeSet<>();
        try (Stream<Path> files = Files.list(Path.of("src/test/java"))) {
            for (Path file : files.toArray(Path[]::new)) {
                String name = file.getFileName().toString();
                if (name.endsWith("Test.java")) {
                    there.add(name.substring(0, name.length() - ".java".length()));
                }
            }
        }
        TreeSet<String> named = new TreeSet<>();
        String text = String.join("\n", section(TESTS));
        Matcher names = Pattern.compile("`([A-Za-z]+Test)`").matcher(text);
        while (names.find()) {
            named.add(names.group(1));
        }
        Check.same("the tests that README.md names", there.toString(), named.toString());
    }

    /** The way to run the tests is .ci/run, by this name and as it stands here. */
    private static void wayToRun() throws IOException {
        List<String> lines = blocks(section(TESTS), "sh");
        Check.same("the way to run the tests", "[.ci/run]", lines.toString());
        Check.due(".ci/run is executable", true, Files.isExecutable(Path.of(".ci/run")));
    }

    public static void main(String[] args) throws IOException, InterruptedException {
        use();
        wholeFace();
        namesOfTests();
        wayToRun();
        Check.end();
    }
}
