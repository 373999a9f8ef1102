import java.io.IOException;
import java.nio.file.Files;
import java.nio.file.Path;
import java.util.List;
import java.util.regex.Matcher;
import java.util.regex.Pattern;

/** What of LANGUAGE.md can be seen in the text of the class. */
public final class RulesTest {
    private static final int MOST_LINES = 60;
    private static final int MOST_PARAMETERS = 7;

    public static void main(String[] args) throws IOException {
        String text = Files.readString(Path.of("src/main/java/Eddyhall.java"));
        onlyPlainSigns(text);
        String code = text.replaceAll("(?s)/\\*.*?\\*/", " ").replaceAll("//[^\n]*", " ");
        nothingForbidden(code);
        imports(code);
        List<String> lines = text.lines().toList();
        methodLength(lines);
        parameters(code);
        Due.end();
    }

    private static void onlyPlainSigns(String text) {
        Due.is("signs beyond 127", 0, () -> text.chars().filter(sign -> sign > 127).count());
    }

    private static void nothingForbidden(String code) {
        String[] forbidden = {
            "\\bcatch\\b", "\\btry\\b", "\\bfinally\\b", "\\bsynchronized\\b", "\\bassert\\b", "->", "::", "Exact\\b",
            "\\bpackage\\b", "\\bMath\\.random\\b", "System\\.(?!arraycopy)", "\\bThread\\b", "\\bHashMap\\b",
            "\\bequals\\b", "\\bhashCode\\b", "\\btoString\\b", "\\bprotected\\b", "while *\\( *true", "for *\\( *; *;",
        };
        for (String word : forbidden) {
            Matcher found = Pattern.compile(word).matcher(code);
            if (found.find()) {
                Due.tell("the class has " + found.group());
            }
        }
    }

    private static void imports(String code) {
        Matcher found = Pattern.compile("import ([^;]*);").matcher(code);
        while (found.find()) {
            if (!List.of("java.util.Arrays", "java.util.ArrayList", "java.util.List").contains(found.group(1))) {
                Due.tell("the class imports " + found.group(1));
            }
        }
        Matcher calls = Pattern.compile("\\b(Math|Arrays|Integer|Long)\\.(\\w+)").matcher(code);
        List<String> allowed = List.of("Math.abs", "Math.min", "Math.max", "Math.floorDiv", "Math.floorMod",
                "Arrays.fill", "Arrays.copyOf", "Arrays.copyOfRange", "Integer.bitCount", "Integer.compare");
        while (calls.find()) {
            if (!allowed.contains(calls.group())) {
                Due.tell("the class uses " + calls.group());
            }
        }
    }

    private static void methodLength(List<String> lines) {
        int begun = -1;
        String end = "";
        for (int i = 0; i < lines.size(); i++) {
            String line = lines.get(i);
            boolean isHead = line.matches("( {4}| {8})(public|private)[^=;]*\\(.*")
                    && !line.contains(" class ");
            if (isHead && begun < 0) {
                begun = i;
                end = line.startsWith("        ") ? "        }" : "    }";
            }
            if (begun >= 0 && line.equals(end)) {
                if (i - begun + 1 > MOST_LINES) {
                    Due.tell("too long: " + lines.get(begun));
                }
                begun = -1;
            }
        }
    }

    private static void parameters(String code) {
        Matcher heads = Pattern.compile("(?:public|private)[^=;{(]*\\(([^)]*)\\)").matcher(code);
        while (heads.find()) {
            if (heads.group(1).split(",").length > MOST_PARAMETERS) {
                Due.tell("too many parameters: " + heads.group());
            }
        }
    }
}
