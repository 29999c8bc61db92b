import java.io.IOException;
import java.nio.charset.StandardCharsets;
import java.nio.file.Files;
import java.nio.file.Path;
import java.util.ArrayList;
import java.util.List;
import java.util.TreeSet;
import java.util.regex.Matcher;
import java.util.regex.Pattern;

/** What ../shared/LANGUAGE.md asks of the source and can be seen from its text. */
public final class LanguageTests {
    private static final Path SOURCE = Path.of("src/main/java/WashAndDry.java");
    private static final Pattern METHOD = Pattern.compile(
            "^ {4,8}((?:public |private |protected |static |final )*)(?:[\\w\\[\\]<>]+ )?(\\w+)\\(([^)]*)\\) \\{$");
    private static int wrong = 0;

    private static void fault(int rule, String what) {
        wrong++;
        System.out.println("rule " + rule + ": " + what);
    }

    public static void main(String[] args) throws IOException {
        List<String> lines = Files.readAllLines(SOURCE, StandardCharsets.UTF_8);
        String code = withoutComments(String.join("\n", lines));
        words(code);
        classes(code);
        methods(code.split("\n"));
        makesNothingInCalls(code.split("\n"));
        System.out.println(wrong == 0 ? "the source keeps to the language" : wrong + " faults of language");
        if (wrong != 0) {
            System.exit(1);
        }
    }

    private static String withoutComments(String text) {
        return text.replaceAll("(?s)/\\*.*?\\*/", "").replaceAll("//[^\n]*", "");
    }

    private static void words(String code) {
        String[] forbidden = {"\\bthrow\\b", "\\bthrows\\b", "\\btry\\b", "\\bcatch\\b", "\\bfinally\\b", "\\bassert\\b",
            "\\bsynchronized\\b", "\\bimport\\b", "\\bpackage\\b", "\\bprotected\\b", "\\bvolatile\\b", "\\bnative\\b",
            "->", "::", "\\bvar\\b", "\\binstanceof\\b", "@", "\\bhashCode\\b", "\\btoString\\b", "\\bMAX_VALUE\\b", "Exact\\b",
            "\\bSystem\\.(?!arraycopy)", "\\bThread\\b", "\\bdouble\\b", "\\bfloat\\b", "\\bString\\b"};
        for (String word : forbidden) {
            Matcher m = Pattern.compile(word).matcher(code);
            if (m.find()) {
                fault(6, "the source has " + m.group());
            }
        }
        for (char sign : code.toCharArray()) {
            if (sign > 127) {
                fault(4, "the sign " + (int) sign);
            }
        }
        Matcher library = Pattern.compile("\\b(Math|Integer|Long|Arrays|List|System)\\.(\\w+)").matcher(code);
        while (library.find()) {
            if (!List.of("max", "min", "abs", "bitCount").contains(library.group(2))) {
                fault(4, library.group());
            }
        }
        if (Pattern.compile("while \\(true\\)|for \\(;").matcher(code).find()) {
            fault(9, "a loop without an end");
        }
    }

    private static void classes(String code) {
        int many = 0;
        for (String line : code.split("\n")) {
            if (line.contains(" class ")) {
                many++;
                if (!line.startsWith("public final class WashAndDry ") && !line.startsWith("    static final class ")) {
                    fault(2, line);
                }
            }
        }
        if (many > 12) {
            fault(11, many + " classes");
        }
        int fields = 0;
        for (String line : code.split("\n")) {
            if (line.contains(" class ")) {
                fields = 0;
            }
            boolean field = line.matches(" {4,8}private (?!static)[^(]*(=.*)?;") && !line.contains("return");
            fields += field ? 1 : 0;
            if (fields > 20) {
                fault(11, "a 21st field: " + line);
            }
            if (line.matches(" +private static (?!final).*[;=].*") && !line.contains("(")) {
                fault(5, line);
            }
        }
    }

    private static void methods(String[] lines) {
        List<String> open = new ArrayList<>();
        List<String> others = new ArrayList<>();
        for (int i = 0; i < lines.length; i++) {
            Matcher m = METHOD.matcher(lines[i]);
            if (!m.matches()) {
                continue;
            }
            boolean isPublic = m.group(1).contains("public");
            if (isPublic) {
                open.add(m.group(2));
            } else {
                others.add(m.group(2));
                if (lines[i].startsWith("    ") && !lines[i].startsWith("     ") && !m.group(1).contains("private")) {
                    fault(1, lines[i]);
                }
            }
            if (m.group(3).split(",").length > 7) {
                fault(11, "parameters of " + m.group(2));
            }
            String end = lines[i].replaceAll("\\S.*", "") + "}";
            int last = i;
            while (!lines[last].equals(end)) {
                last++;
            }
            if (last - i > 60) {
                fault(11, "the length of " + m.group(2));
            }
        }
        if (open.size() != 45) {
            fault(1, open.size() + " public members, not 45");
        }
        TreeSet<String> both = new TreeSet<>(others);
        both.retainAll(open);
        if (!both.isEmpty()) {
            fault(1, "private ones with a public one's name: " + both);
        }
    }

    /** Objects and rows are made as fields are, so that no call makes any. */
    private static void makesNothingInCalls(String[] lines) {
        for (String line : lines) {
            boolean made = line.contains("new ") || line.contains(".clone(") || line.contains(" = {");
            boolean inField = line.matches(" +private (static )?final .* = .*;");
            boolean inUndos = line.trim().equals("orders[i] = new Order();");
            if (made && !inField && !inUndos) {
                fault(12, line.trim());
            }
        }
    }
}
