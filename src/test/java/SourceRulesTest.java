import java.io.IOException;
import java.nio.file.Files;
import java.nio.file.Path;
import java.util.ArrayList;
import java.util.List;
import java.util.Set;
import java.util.TreeSet;
import java.util.regex.Matcher;
import java.util.regex.Pattern;

/** The rules of LANGUAGE.md that can be seen from the class's own text. */
public final class SourceRulesTest {
    private static final String[] FORBIDDEN = {
        "\\bthrow\\b", "\\bthrows\\b", "\\btry\\b", "\\bcatch\\b", "\\bsynchronized\\b", "\\bassert\\b", "\\bprotected\\b",
        "->", "::", "Exact\\b", "\\bpackage\\b", "\\bSystem\\.(?!arraycopy\\b)", "\\bMath\\.(random|sqrt|pow|floor|ceil)\\b",
        "\\bHash", "\\bMap\\b", "\\bSet\\b", "\\bRandom\\b", "\\bThread\\b", "\\bObject\\b", "\\bstatic\\s*\\{", "@\\w+",
        "\\bhashCode\\b", "\\btoString\\b", "\\bwhile\\s*\\(\\s*true", "for\\s*\\(\\s*;", "\"[^\"\\n]*\"\\s*\\+",
        "[^\\x00-\\x7f]"};
    private static final Set<String> IMPORTS = Set.of("java.util.Arrays", "java.util.ArrayList", "java.util.List",
        "java.util.Iterator");
    private static final Pattern METHOD = Pattern.compile(
        "(?m)^( +)((?:public |private |static |final )*)([\\w\\[\\]]+) (\\w+)\\(([^)]*)\\) \\{");

    public static void main(String[] args) throws IOException {
        String whole = Files.readString(Path.of("src/main/java/CanalRings.java"));
        String code = whole.replaceAll("(?s)/\\*.*?\\*/", "").replaceAll("//[^\n]*", "");
        for (String word : FORBIDDEN) {
            Trial.due("the text has " + word, Pattern.compile(word).matcher(code).find() ? 1 : 0, 0);
        }
        imports(code);
        methods(code);
        statics(code);
        Matcher classes = Pattern.compile("\\b(class|record|enum|interface) \\w+").matcher(code);
        int many = 0;
        while (classes.find()) many++;
        Trial.due("some twelve classes at most", many <= 12 ? 1 : 0, 1);
        Trial.end("SourceRulesTest");
    }

    private static void imports(String code) {
        Matcher found = Pattern.compile("(?m)^import ([^;]+);").matcher(code);
        while (found.find()) Trial.due("import " + found.group(1), IMPORTS.contains(found.group(1)) ? 1 : 0, 1);
    }

    private static void methods(String code) {
        Matcher found = METHOD.matcher(code);
        Set<String> face = new TreeSet<>();
        List<String> others = new ArrayList<>();
        while (found.find()) {
            String name = found.group(4);
            if (name.equals("if") || name.equals("for")) continue;
            if (found.group(2).contains("public ")) face.add(name);
            else others.add(name);
            int parameters = found.group(5).isEmpty() ? 0 : found.group(5).split(",").length;
            Trial.due(name + " has at most seven parameters", parameters <= 7 ? 1 : 0, 1);
            int end = code.indexOf("\n" + found.group(1) + "}", found.end());
            long lines = code.substring(found.start(), end).lines().count();
            Trial.due(name + " has at most sixty lines", lines <= 60 ? 1 : 0, 1);
        }
        Trial.due("methods of the face", face.size(), 43);
        for (String name : others) Trial.due(name + " bears a public name", face.contains(name) ? 1 : 0, 0);
    }

    private static void statics(String code) {
        Matcher found = Pattern.compile("(?m)^ +[^(\\n]*\\bstatic\\b[^(\\n]*=").matcher(code);
        while (found.find()) {
            Trial.due("final:" + found.group(), found.group().contains(" final ") ? 1 : 0, 1);
        }
    }
}
