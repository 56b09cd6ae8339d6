import java.io.IOException;
import java.nio.charset.StandardCharsets;
import java.nio.file.Files;
import java.nio.file.Path;
import java.util.ArrayList;
import java.util.List;
import java.util.regex.Matcher;
import java.util.regex.Pattern;

/** The rules of LANGUAGE.md that can be seen in the text of the program. */
public final class RulesTest {
    private static final String[] FORBIDDEN = {
        "^import ", "^package ", "->", "::", "\\bfinally\\b", "\\bsynchronized\\b",
        "\\bassert\\b", "\\bcatch\\b", "\\btry\\b", "Exact\\(", "\\bequals\\(", "hashCode",
        "toString", "System\\.(?!arraycopy)", "Thread", "Random", "\\bprotected\\b",
        "\\bnew [A-Za-z]+Exception\\([^\")]", "\\bvar\\b", "static int [a-z]+;", "getClass",
    };
    private static final Pattern METHOD = Pattern.compile(
            "^ +(public |private )?(static )?[a-z]+ ([a-zA-Z]+)\\(([^)]*)\\)[^;=]*\\{?$");
    private static final String FACE = " type clearText listFault variantFault takeList addVariant"
            + " removeVariant setQuality setSize setWeight removeEntry swapSides setTies variant"
            + " weight counting entry ranked whole listed listingByte servedFor servedWithout"
            + " leastWeight leastQuality agree undo digest ";

    private static List<String> code() throws IOException {
        Path program = Path.of("src/main/java/RatherDesk.java");
        List<String> lines = new ArrayList<>();
        for (String line : Files.readAllLines(program, StandardCharsets.US_ASCII)) {
            boolean comment = line.trim().startsWith("*") || line.trim().startsWith("/*");
            lines.add(comment ? "" : line.replaceAll("//.*", ""));
        }
        return lines;
    }

    private static void forbidden(List<String> lines) {
        for (String rule : FORBIDDEN) {
            Pattern pattern = Pattern.compile(rule);
            for (int at = 0; at < lines.size(); at++) {
                boolean found = pattern.matcher(lines.get(at)).find();
                Check.due("line " + (at + 1) + " has " + rule, false, found);
            }
        }
    }

    private static void methods(List<String> lines) {
        int begun = -1;
        int methods = 0;
        int classes = 0;
        for (int at = 0; at < lines.size(); at++) {
            String line = lines.get(at);
            Matcher method = METHOD.matcher(line);
            if (method.matches() && !line.contains(" return ") && !line.contains(" else ")) {
                methods++;
                begun = at;
                Check.due(method.group(3) + " has few parameters", true,
                        method.group(4).split(",").length <= 7);
                boolean face = FACE.contains(" " + method.group(3) + " ");
                boolean open = "public ".equals(method.group(1));
                Check.due(method.group(3) + " is of the face", face, open);
            }
            classes += line.contains(" class ") ? 1 : 0;
            Check.due("line " + (at + 1) + " of a long method", true,
                    line.isBlank() || !line.endsWith("}") || at - begun < 60 || begun < 0
                            || line.equals("}"));
        }
        Check.due("methods were found", true, methods > 90);
        Check.due("classes", true, classes <= 12);
    }

    public static void main(String[] args) throws IOException {
        List<String> lines = code();
        forbidden(lines);
        methods(lines);
        Check.end();
    }
}
