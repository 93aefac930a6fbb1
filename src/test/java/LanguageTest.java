import java.io.IOException;
import java.nio.file.Files;
import java.nio.file.Path;
import java.util.Map;
import java.util.TreeMap;
import java.util.regex.Matcher;
import java.util.regex.Pattern;

/** The rules of LANGUAGE.md that can be seen from the words of the file. It is run in the project's directory. */
public final class LanguageTest {
    private static final Check c = new Check();
    private static final int MOST_DEEP = 8;
    private static final Pattern HEAD =
        Pattern.compile("^( {4}| {8})(?:(?:public|private|static|final) )*[\\w\\[\\]]+ (\\w+)\\(([^)]*)\\) \\{$");

    private static final String[] FORBIDDEN = {
        "throw", "throws", "try", "catch", "finally", "synchronized", "assert", "package", "instanceof\\s+\\w+\\s*\\(",
        "System\\.(?!arraycopy)\\w+", "Random", "Thread", "Object", "equals\\s*\\(\\s*Object", "hashCode", "toString",
        "Exact\\s*\\(", "@\\w+", "double", "float", "long", "while\\s*\\(\\s*true", "for\\s*\\(\\s*;\\s*;"};

    public static void main(String[] args) throws IOException {
        String source = Files.readString(Path.of("src/main/java/MovingMarket.java"));
        c.holds("its signs are 1 to 127", source.chars().allMatch(sign -> sign >= 1 && sign <= 127));
        String bare = withoutTexts(source);
        for (String word : FORBIDDEN) {
            Matcher matcher = Pattern.compile("(?<![\\w.])" + word + "(?!\\w)").matcher(bare);
            c.holds("no " + word, !matcher.find());
        }
        c.holds("no lambda, no method reference", !bare.contains("->") && !bare.contains("::"));
        imports(bare);
        statics(bare);
        lengths(bare);
        c.end();
    }

    /** The source without its comments, texts and signs. */
    private static String withoutTexts(String source) {
        String bare = source.replaceAll("(?s)/\\*.*?\\*/", "").replaceAll("//[^\n]*", "");
        return bare.replaceAll("\"[^\"\n]*\"", "\"\"").replaceAll("'[^'\n]'", "' '");
    }

    private static void imports(String bare) {
        Matcher matcher = Pattern.compile("import\\s+([\\w.*]+);").matcher(bare);
        while (matcher.find()) {
            c.holds("import of " + matcher.group(1), matcher.group(1).equals("java.util.Arrays"));
        }
    }

    private static void statics(String bare) {
        Matcher matcher = Pattern.compile("static\\s+(?!final\\b)[\\w\\[\\]]+\\s+\\w+\\s*[=;]").matcher(bare);
        c.holds("static fields are final", !matcher.find());
        c.holds("no static initialiser", !Pattern.compile("static\\s*\\{").matcher(bare).find());
        int classes = 0;
        Matcher nested = Pattern.compile("\\b(class|enum|interface|record)\\s+\\w+").matcher(bare);
        while (nested.find()) {
            classes++;
        }
        c.holds("at most twelve classes, but " + classes, classes <= 12);
    }

    /** A method has at most sixty lines and seven parameters; calls go at most eight deep. */
    private static void lengths(String bare) {
        Map<String, StringBuilder> bodies = new TreeMap<>();
        String[] lines = bare.split("\n");
        int methods = 0;
        for (int i = 0; i < lines.length; i++) {
            Matcher matcher = HEAD.matcher(lines[i]);
            if (!matcher.find()) {
                continue;
            }
            methods++;
            int end = i;
            while (end < lines.length && !lines[end].equals(matcher.group(1) + "}")) {
                end++;
            }
            c.holds(lines[i] + " has " + (end - i + 1) + " lines", end - i + 1 <= 60);
            c.holds(lines[i] + " has few parameters", matcher.group(3).split(",").length <= 7);
            // Methods of one name count as one, so that the depth is told too large rather than too small.
            StringBuilder body = bodies.computeIfAbsent(matcher.group(2), name -> new StringBuilder());
            for (int k = i + 1; k < end; k++) {
                body.append(lines[k]).append('\n');
            }
        }
        c.holds("methods are found", methods > 48);
        int deepest = 0;
        for (String name : bodies.keySet()) {
            int depth = depth(name, bodies, 1);
            c.holds(name + " goes " + depth + " calls deep", depth <= MOST_DEEP);
            deepest = Math.max(deepest, depth);
        }
        c.holds("calls are found", deepest > 3);
    }

    /** How many calls stand open at once; more than are allowed, if one comes back to itself. */
    private static int depth(String name, Map<String, StringBuilder> bodies, int above) {
        if (above > MOST_DEEP) {
            return 1;
        }
        int deepest = 0;
        Matcher called = Pattern.compile("(?<!new )\\b(\\w+)\\(").matcher(bodies.get(name));
        while (called.find()) {
            if (bodies.containsKey(called.group(1))) {
                deepest = Math.max(deepest, depth(called.group(1), bodies, above + 1));
            }
        }
        return 1 + deepest;
    }
}
