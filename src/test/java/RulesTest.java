import java.io.IOException;
import java.nio.file.Files;
import java.nio.file.Path;
import java.util.List;
import java.util.Set;
import java.util.regex.Matcher;
import java.util.regex.Pattern;

/** What of LANGUAGE.md can be seen in the text of the class. */
public final class RulesTest {
    private static final int MOST_LINES = 60;
    private static final int MOST_PARAMETERS = 7;
    private static final int MOST_CLASSES = 12;

    private static final String[] FORBIDDEN = {
        "\\bcatch\\b", "\\btry\\b", "\\bfinally\\b", "\\bsynchronized\\b", "\\bassert\\b", "->", "::", "Exact\\b",
        "\\bpackage\\b", "\\bMath\\.random\\b", "System\\.(?!arraycopy)", "\\bThread\\b", "\\bHashMap\\b",
        "\\bequals\\b", "\\bhashCode\\b", "\\btoString\\b", "\\bprotected\\b", "while *\\( *true", "for *\\( *; *;",
        "\\bwhile\\b", "\\bdo\\b", "\\bvar\\b", "\\byield\\b", "\\brecord +[A-Z]", "\\bnative\\b", "\\bdouble\\b",
        "\"", "static *\\{", "\\binstanceof\\b", "@",
    };

    /** Every name with a great letter that is not a constant's. */
    private static final Set<String> NAMES = Set.of("Eddyhall", "Water", "Counts", "Probes", "Window", "Tally",
            "Arrays", "Math", "Integer", "System",
            "IndexOutOfBoundsException", "IllegalArgumentException", "IllegalStateException");

    private static final List<String> LIBRARY = List.of("Math.abs", "Math.min", "Math.max", "Math.floorDiv",
            "Math.floorMod", "Arrays.fill", "Arrays.copyOf", "Arrays.copyOfRange", "Integer.bitCount",
            "Integer.compare", "System.arraycopy");

    public static void main(String[] args) throws IOException {
        String text = Files.readString(Path.of("src/main/java/Eddyhall.java"));
        String code = text.replaceAll("(?s)/\\*.*?\\*/", " ").replaceAll("//[^\n]*", " ");
        List<String> lines = text.lines().toList();
        onlyPlainSigns(text);
        nothingForbidden(code);
        names(code);
        library(code);
        exceptions(code);
        statics(code);
        classes(code);
        methodLength(lines);
        parameters(code);
        recursion(lines);
        Due.end();
    }

    private static void rule(boolean isKept, String text) {
        Due.look();
        if (!isKept) {
            Due.tell("the class: " + text);
        }
    }

    private static void onlyPlainSigns(String text) {
        rule(text.chars().allMatch(sign -> sign == '\n' || sign >= 32 && sign <= 126), "has other signs");
    }

    private static void nothingForbidden(String code) {
        for (String word : FORBIDDEN) {
            Matcher found = Pattern.compile(word).matcher(code);
            rule(!found.find(), "has " + word);
        }
    }

    private static void names(String code) {
        Matcher found = Pattern.compile("\\b[A-Z]\\w*[a-z]\\w*").matcher(code);
        while (found.find()) {
            rule(NAMES.contains(found.group()), "names " + found.group());
        }
    }

    private static void library(String code) {
        Matcher imports = Pattern.compile("import ([^;]*);").matcher(code);
        while (imports.find()) {
            rule(imports.group(1).equals("java.util.Arrays"), "imports " + imports.group(1));
        }
        Matcher calls = Pattern.compile("\\b(Math|Arrays|Integer|System)\\.(\\w+)").matcher(code);
        while (calls.find()) {
            String call = calls.group();
            rule(LIBRARY.contains(call) || call.equals("Arrays") || code.startsWith("import java.util", calls.start()),
                    "uses " + call);
        }
        Matcher floats = Pattern.compile("float\\b[^;]*\\bMath\\.").matcher(code);
        rule(!floats.find(), "uses Math on floats");
    }

    /** Each throw is one of the three that the document names, and stands in a method of the face. */
    private static void exceptions(String code) {
        Matcher found = Pattern.compile("\\bthrow\\b([^;]*);").matcher(code);
        int shared = code.indexOf("private static boolean isOutside");
        while (found.find()) {
            rule(found.group(1).matches(" new (IndexOutOfBounds|IllegalArgument|IllegalState)Exception\\(\\)"),
                    "has throw" + found.group(1));
            rule(found.start() < shared, "throws in a private method");
        }
        Matcher constructors = Pattern.compile("(public|private) [A-Z]\\w*\\([^)]*\\) \\{[^}]*}").matcher(code);
        while (constructors.find()) {
            rule(!constructors.group().contains("throw"), "throws in a constructor");
        }
    }

    private static void statics(String code) {
        Matcher found = Pattern.compile("\\bstatic\\b([^;{]*)[;{]").matcher(code);
        while (found.find()) {
            String rest = found.group(1);
            boolean isMethod = rest.contains("(");
            boolean isClass = rest.contains(" class ");
            rule(isMethod || isClass || rest.matches(" final int [^;]*"), "has static" + rest);
        }
    }

    private static void classes(String code) {
        Matcher found = Pattern.compile("\\bclass\\b").matcher(code);
        int many = 0;
        while (found.find()) {
            many++;
        }
        rule(many <= MOST_CLASSES, "has " + many + " classes");
    }

    private static boolean isHead(String line) {
        return line.matches("( {4}| {8})(public|private)[^=;]*\\(.*") && !line.contains(" class ");
    }

    private static void methodLength(List<String> lines) {
        int begun = -1;
        String end = "";
        for (int i = 0; i < lines.size(); i++) {
            String line = lines.get(i);
            if (isHead(line) && begun < 0) {
                begun = i;
                end = line.startsWith("        ") ? "        }" : "    }";
            }
            if (begun >= 0 && line.equals(end)) {
                rule(i - begun + 1 <= MOST_LINES, "too long: " + lines.get(begun));
                begun = -1;
            }
        }
    }

    private static void parameters(String code) {
        Matcher heads = Pattern.compile("(?:public|private)[^=;{(]*\\(([^)]*)\\)").matcher(code);
        while (heads.find()) {
            rule(heads.group(1).split(",").length <= MOST_PARAMETERS, "too many parameters: " + heads.group());
        }
    }

    /** Only arrived() calls itself, and its depth is an argument that it looks at. */
    private static void recursion(List<String> lines) {
        String name = "";
        for (String line : lines) {
            if (isHead(line)) {
                Matcher head = Pattern.compile("(\\w+)\\(").matcher(line);
                name = head.find() ? head.group(1) : "";
            } else if (!name.isEmpty() && !name.equals("arrived")) {
                rule(!line.matches(".*(?<![.\\w])" + name + "\\(.*"), name + " calls itself");
            }
        }
    }
}
