import java.io.IOException;
import java.lang.reflect.InvocationTargetException;
import java.lang.reflect.Method;
import java.nio.file.Files;
import java.nio.file.Path;
import java.util.HashSet;
import java.util.List;
import java.util.Set;
import java.util.regex.Matcher;
import java.util.regex.Pattern;

/** What the document prints stands in the class and in README.md, and the calls that README.md shows answer so. */
public final class DocTest {
    private static final String[] TOLD = {"wall", "clear", "open", "particle", "ink", "probe", "fault", "bring"};
    private static final String[] PASSING = {"step", "back", "flow"};
    private static final String[] LOOKS = {"cellOf", "bodyOf", "sum", "left", "average", "scatter", "likeness",
        "ahead", "aheadAnew", "mixed", "record", "beat", "better"};
    private static final int PROMISES = 25;

    public static void main(String[] args) throws IOException {
        String doc = Files.readString(Path.of("../shared/DOC.md"));
        String code = Files.readString(Path.of("src/main/java/Eddyhall.java"));
        String readme = Files.readString(Path.of("README.md"));
        face(doc, code);
        group(code, "// ---- what is told", TOLD, "// ---- STEPS, rounds");
        group(code, "// ---- STEPS, rounds", PASSING, "// ---- what there is");
        group(code, "// ---- what there is", LOOKS, "// ---- what the calls share");
        words(doc, readme);
        answers(readme);
        Due.end();
    }

    private static void stands(boolean isSo, String what) {
        Due.look();
        if (!isSo) {
            Due.tell(what);
        }
    }

    private static String folded(String text) {
        return text.replaceAll("\\s+", " ").trim();
    }

    private static String between(String text, String first, String end) {
        int from = text.indexOf(first);
        int to = text.indexOf(end, from + first.length());
        return from < 0 ? "" : text.substring(from, to < 0 ? text.length() : to);
    }

    /** Each line of the face, in its order, with a body instead of its semicolon where it is no constant. */
    private static void face(String doc, String code) {
        String text = folded(code);
        int from = 0;
        for (String line : between(doc, "```java", "\n```").split("\n")) {
            boolean isHead = line.contains("(") || line.contains("{");
            String want = folded(isHead ? line.replace(";", " {") : line);
            if (want.startsWith("public")) {
                int at = text.indexOf(want, from);
                stands(at >= 0, "the class has not, or not in its place: " + want);
                from = Math.max(from, at);
            }
        }
    }

    private static void group(String code, String heading, String[] names, String next) {
        String part = between(code, heading, next);
        for (String name : names) {
            stands(Pattern.compile("public \\w+ " + name + "\\(").matcher(part).find(),
                    name + " does not stand behind " + heading);
        }
    }

    /** Each sentence on how to use the class, from the Terms to the last promise. */
    private static void words(String doc, String readme) {
        Set<String> lines = new HashSet<>(readme.lines().toList());
        allIn(between(doc, "## What it is", "## The public face"), lines);
        allIn(between(doc, "## Terms", "The constants:"), lines);
        for (int promise = 1; promise <= PROMISES; promise++) {
            String text = between(doc, "## Promise " + promise + ":", "\n## ");
            stands(text.contains("`"), "the document has no promise " + promise);
            allIn(text, lines);
        }
    }

    private static void allIn(String text, Set<String> lines) {
        for (String line : text.lines().toList()) {
            boolean isHeading = line.startsWith("#") || line.equals("CELLS, particles");
            stands(isHeading || line.isBlank() || lines.contains(line), "README.md does not say: " + line);
        }
    }

    /** Each call of the example; "// 4: ..." behind it tells the answer. */
    private static void answers(String readme) {
        Eddyhall hall = new Eddyhall();
        Set<String> missing = new HashSet<>(List.of(TOLD));
        missing.addAll(List.of(PASSING));
        missing.addAll(List.of(LOOKS));
        Matcher calls = Pattern.compile("\nhall\\.(\\w+)\\(([^)]*)\\); *// (?:(-?[0-9.]+):)?").matcher(readme);
        while (calls.find()) {
            String text = calls.group(1) + "(" + calls.group(2) + ")";
            missing.remove(calls.group(1));
            if (calls.group(3) == null) {
                Due.passes(text, () -> answer(hall, calls.group(1), calls.group(2).split(", ")));
            } else {
                double want = Double.parseDouble(calls.group(3));
                Due.is(text, want, () -> answer(hall, calls.group(1), calls.group(2).split(", ")));
            }
        }
        stands(missing.isEmpty(), "the example does not use " + missing);
    }

    private static double answer(Eddyhall hall, String name, String[] texts) {
        for (Method method : Eddyhall.class.getMethods()) {
            if (method.getName().equals(name) && method.getParameterCount() == texts.length) {
                Object[] arguments = new Object[texts.length];
                for (int i = 0; i < texts.length; i++) {
                    arguments[i] = argument(texts[i]);
                }
                try {
                    Object answer = method.invoke(hall, arguments);
                    return answer == null ? 0 : ((Number) answer).doubleValue();
                } catch (IllegalAccessException | InvocationTargetException e) {
                    throw new IllegalStateException(e);
                }
            }
        }
        throw new IllegalStateException("no method " + name);
    }

    private static Object argument(String text) {
        switch (text) {
            case "true":
            case "false":
                return Boolean.valueOf(text);
            case "Eddyhall.NONE":
                return Eddyhall.NONE;
            case "Eddyhall.INLET":
                return Eddyhall.INLET;
            case "Eddyhall.OUTLET":
                return Eddyhall.OUTLET;
            default:
                return Integer.valueOf(text);
        }
    }
}
