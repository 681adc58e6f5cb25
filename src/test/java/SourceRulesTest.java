import java.io.IOException;
import java.nio.file.Files;
import java.nio.file.Path;
import java.util.ArrayList;
import java.util.List;
import java.util.Map;
import java.util.Set;
import java.util.TreeMap;
import java.util.TreeSet;
import java.util.regex.Matcher;
import java.util.regex.Pattern;

/** The rules of LANGUAGE.md that can be seen from the class's own text. */
public final class SourceRulesTest {
    private static final String[] FORBIDDEN = {
        "\\bthrow\\b", "\\bthrows\\b", "\\btry\\b", "\\bcatch\\b", "\\bsynchronized\\b", "\\bassert\\b", "\\bprotected\\b",
        "->", "::", "Exact\\b", "\\bpackage\\b", "\\bSystem\\.(?!arraycopy\\b)", "\\bMath\\.(random|sqrt|pow|floor|ceil)\\b",
        "\\bHash", "\\bMap\\b", "\\bSet\\b", "\\bRandom\\b", "\\bThread\\b", "\\bObject\\b", "\\bstatic\\s*\\{", "@\\w+",
        "\\bhashCode\\b", "\\btoString\\b", "\\bwhile\\s*\\(\\s*true", "for\\s*\\(\\s*;", "\"[^\"\\n]*\"\\s*\\+",
        "[^\\x00-\\x7f]"};
    private static final Set<String> IMPORTS = Set.of("java.util.Arrays", "java.util.ArrayList", "java.util.List",
        "java.util.Iterator");
    private static final Pattern METHOD = Pattern.compile(
        "(?m)^( +)((?:public |private |static |final )*)([\\w\\[\\]]+) (\\w+)\\(([^)]*)\\) \\{");

    public static void main(String[] args) throws IOException {
        String whole = Files.readString(Path.of("src/main/java/CanalRings.java"));
        String code = whole.replaceAll("(?s)/\\*.*?\\*/", "").replaceAll("//[^\n]*", "");
        for (String word : FORBIDDEN) {
            Trial.due("the text has " + word, Pattern.compile(word).matcher(code).find() ? 1 : 0, 0);
        }
        imports(code);
        methods(code);
        statics(code);
        callsAndRecursion(code);
        Matcher classes = Pattern.compile("\\b(class|record|enum|interface) \\w+").matcher(code);
        int many = 0;
        while (classes.find()) many++;
        Trial.due("some twelve classes at most", many <= 12 ? 1 : 0, 1);
        Trial.end("SourceRulesTest");
    }

    private static void imports(String code) {
        Matcher found = Pattern.compile("(?m)^import ([^;]+);").matcher(code);
        while (found.find()) Trial.due("import " + found.group(1), IMPORTS.contains(found.group(1)) ? 1 : 0, 1);
    }

    private static void methods(String code) {
        Matcher found = METHOD.matcher(code);
        Set<String> face = new TreeSet<>();
        List<String> others = new ArrayList<>();
        while (found.find()) {
            String name = found.group(4);
            if (name.equals("if") || name.equals("for")) continue;
            if (found.group(2).contains("public ")) face.add(name);
            else others.add(name);
            int parameters = found.group(5).isEmpty() ? 0 : found.group(5).split(",").length;
            Trial.due(name + " has at most seven parameters", parameters <= 7 ? 1 : 0, 1);
            int end = code.indexOf("\n" + found.group(1) + "}", found.end());
            long lines = code.substring(found.start(), end).lines().count();
            Trial.due(name + " has at most sixty lines", lines <= 60 ? 1 : 0, 1);
        }
        Trial.due("methods of the face", face.size(), 43);
        for (String name : others) Trial.due(name + " bears a public name", face.contains(name) ? 1 : 0, 0);
    }

    private static void statics(String code) {
        Matcher found = Pattern.compile("(?m)^ +[^(\\n]*\\bstatic\\b[^(\\n]*=").matcher(code);
        while (found.find()) {
            Trial.due("final:" + found.group(), found.group().contains(" final ") ? 1 : 0, 1);
        }
    }

    /** Rules 8 and 11: who calls itself is private; calls that are no recursion go at most eight deep. */
    private static void callsAndRecursion(String code) {
        Map<String, String> bodies = new TreeMap<>();
        Set<String> face = new TreeSet<>();
        Matcher found = METHOD.matcher(code);
        while (found.find()) {
            String name = found.group(4);
            if (name.equals("if") || name.equals("for")) continue;
            int end = code.indexOf("\n" + found.group(1) + "}", found.end());
            String body = code.substring(found.end(), end);
            // The calls are told apart by their names alone, so no two methods may share one.
            Trial.due(name + " is one method's name alone", bodies.put(name, body) == null ? 1 : 0, 1);
            if (found.group(2).contains("public ")) face.add(name);
            if (calls(body, name)) {
                Trial.due(name + " calls itself: private", found.group(2).contains("private ") ? 1 : 0, 1);
            }
        }
        for (String name : face) {
            String way = deepest(name, bodies, List.of());
            int deep = way.split(" ").length;
            Trial.due("at most eight deep: " + way, deep <= 8 ? 1 : 0, 1);
        }
    }

    private static boolean calls(String body, String name) {
        return Pattern.compile("\\b" + name + "\\(").matcher(body).find();
    }

    /** The longest row of calls from a method on, it and a call of the library included. */
    private static String deepest(String name, Map<String, String> bodies, List<String> open) {
        List<String> now = new ArrayList<>(open);
        now.add(name);
        String body = bodies.get(name);
        String longest = "";
        if (Pattern.compile("\\b(Math|Integer|Arrays|System)\\.\\w+\\(").matcher(body).find()) longest = " library";
        for (String next : bodies.keySet()) {
            if (now.contains(next) || !calls(body, next)) continue;
            String way = " " + deepest(next, bodies, now);
            if (way.split(" ").length > longest.split(" ").length) longest = way;
        }
        return name + longest;
    }
}
