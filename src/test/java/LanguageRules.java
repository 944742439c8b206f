import java.io.IOException;
import java.nio.file.Files;
import java.nio.file.Path;
import java.util.HashMap;
import java.util.HashSet;
import java.util.LinkedHashMap;
import java.util.List;
import java.util.Map;
import java.util.Set;
import java.util.regex.Matcher;
import java.util.regex.Pattern;

/** What of LANGUAGE.md can be seen in the source's words; run from the project's directory. */
public final class LanguageRules {
    private static final Check CHECK = new Check();
    private static final int MOST_LINES = 60;
    private static final int MOST_DEEP = 8;
    private static final int MOST_CLASSES = 12;

    public static void main(String[] args) throws IOException {
        String source = Files.readString(Path.of("src/main/java/WalledIn.java"));
        String code = source.replaceAll("(?s)/\\*.*?\\*/", "").replaceAll("//[^\n]*", "")
            .replaceAll("\"[^\"\n]*\"", "\"\"");
        words(code);
        imports(code);
        Map<String, String> methods = methods(code);
        names(code, methods.keySet());
        lengths(methods);
        depths(methods);
        CHECK.due("classes are at most " + MOST_CLASSES,
            count(code, "\\bclass \\w+") <= MOST_CLASSES, true);
        CHECK.endWith("language rules");
    }

    private static int count(String code, String pattern) {
        Matcher m = Pattern.compile(pattern).matcher(code);
        int n = 0;
        while (m.find()) {
            n++;
        }
        return n;
    }

    private static void words(String code) {
        List<String> none = List.of("\\bthrow\\b", "\\bthrows\\b", "\\btry\\b", "\\bcatch\\b",
            "\\bsynchronized\\b", "\\bassert\\b", "->", "::", "\\bThread\\b", "\\bRandom\\b",
            "\\bSystem\\.(?!arraycopy)", "\\bequals\\b", "\\bhashCode\\b", "\\btoString\\b",
            "\\bprotected\\b", "Exact\\b", "\\bstatic \\{", "[^\\x00-\\x7f]", "\\bdouble\\b",
            "\\bfloat\\b", "\"\" *\\+", "\\+ *\"\"", "\\bvar\\b", "\\bObject\\b");
        for (String pattern : none) {
            CHECK.due("uses of " + pattern, count(code, pattern), 0);
        }
        CHECK.due("static fields that are not final",
            count(code, "\\bstatic (?!final\\b)(?!class\\b)"), 0);
    }

    private static void imports(String code) {
        CHECK.due("imports", count(code, "(?m)^import "), 1);
        CHECK.due("import of Arrays", count(code, "(?m)^import java\\.util\\.Arrays;"), 1);
    }

    /** Each method's body by its name; bodies of like names are put together. */
    private static Map<String, String> methods(String code) {
        Map<String, String> bodies = new LinkedHashMap<>();
        String head = "(?m)^( +)(?:private|public) [\\w\\[\\]]+ (\\w+)\\(([^)]*)\\) \\{$";
        Matcher m = Pattern.compile(head).matcher(code);
        while (m.find()) {
            String name = m.group(2);
            int parameters = m.group(3).isBlank() ? 0 : m.group(3).split(",").length;
            CHECK.due("parameters of " + name + " are at most 7", parameters <= 7, true);
            int end = code.indexOf("\n" + m.group(1) + "}\n", m.end());
            bodies.merge(name, code.substring(m.end(), end), (a, b) -> a + "\n\n" + b);
        }
        return bodies;
    }

    private static void names(String code, Set<String> methods) {
        for (String name : methods) {
            boolean isFace = count(code, "public \\w+ " + name + "\\(") > 0;
            boolean isPrivate = count(code, "private [\\w\\[\\]]+ " + name + "\\(") > 0;
            CHECK.due(name + " is of the face and private too", isFace && isPrivate, false);
        }
    }

    private static void lengths(Map<String, String> methods) {
        for (Map.Entry<String, String> e : methods.entrySet()) {
            for (String body : e.getValue().split("\n\n")) {
                CHECK.due(e.getKey() + " is short", body.split("\n").length <= MOST_LINES, true);
            }
        }
    }

    /** The calls by name: methods of one name count as one, which is stricter. */
    private static void depths(Map<String, String> methods) {
        Map<String, Set<String>> calls = new HashMap<>();
        for (Map.Entry<String, String> e : methods.entrySet()) {
            Set<String> called = new HashSet<>();
            Matcher m = Pattern.compile("\\b(\\w+)\\(").matcher(e.getValue());
            while (m.find()) {
                if (methods.containsKey(m.group(1))) {
                    called.add(m.group(1));
                }
            }
            calls.put(e.getKey(), called);
        }
        for (String name : methods.keySet()) {
            int deep = depth(name, calls, 0);
            CHECK.due(name + " goes " + deep + " deep, at most 8", deep <= MOST_DEEP, true);
        }
    }

    private static int depth(String name, Map<String, Set<String>> calls, int open) {
        if (open > 50) {
            return 1000;
        }
        int deepest = 0;
        for (String called : calls.get(name)) {
            deepest = Math.max(deepest, depth(called, calls, open + 1));
        }
        return deepest + 1;
    }
}
