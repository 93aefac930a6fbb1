import java.io.IOException;
import java.nio.file.Files;
import java.nio.file.Path;
import java.util.regex.Matcher;
import java.util.regex.Pattern;

/** The rules of LANGUAGE.md that can be seen from the words of the file. It is run in the project's directory. */
public final class LanguageTest {
    private static final Check c = new Check();

    private static final String[] FORBIDDEN = {
        "throw", "throws", "try", "catch", "finally", "synchronized", "assert", "package", "instanceof\\s+\\w+\\s*\\(",
        "System\\.(?!arraycopy)\\w+", "Random", "Thread", "Object", "equals\\s*\\(\\s*Object", "hashCode", "toString",
        "Exact\\s*\\(", "@\\w+", "double", "float", "long", "while\\s*\\(\\s*true", "for\\s*\\(\\s*;\\s*;"};

    public static void main(String[] args) throws IOException {
        String source = Files.readString(Path.of("src/main/java/MovingMarket.java"));
        c.holds("its signs are 1 to 127", source.chars().allMatch(sign -> sign >= 1 && sign <= 127));
        String bare = withoutTexts(source);
        for (String word : FORBIDDEN) {
            Matcher matcher = Pattern.compile("(?<![\\w.])" + word + "(?!\\w)").matcher(bare);
            c.holds("no " + word, !matcher.find());
        }
        c.holds("no lambda, no method reference", !bare.contains("->") && !bare.contains("::"));
        imports(bare);
        statics(bare);
        lengths(bare);
        c.end();
    }

    /** The source without its comments, texts and signs. */
    private static String withoutTexts(String source) {
        String bare = source.replaceAll("(?s)/\\*.*?\\*/", "").replaceAll("//[^\n]*", "");
        return bare.replaceAll("\"[^\"\n]*\"", "\"\"").replaceAll("'[^'\n]'", "' '");
    }

    private static void imports(String bare) {
        Matcher matcher = Pattern.compile("import\\s+([\\w.*]+);").matcher(bare);
        while (matcher.find()) {
            c.holds("import of " + matcher.group(1), matcher.group(1).equals("java.util.Arrays"));
        }
    }

    private static void statics(String bare) {
        Matcher matcher = Pattern.compile("static\\s+(?!final\\b)[\\w\\[\\]]+\\s+\\w+\\s*[=;]").matcher(bare);
        c.holds("static fields are final", !matcher.find());
        c.holds("no static initialiser", !Pattern.compile("static\\s*\\{").matcher(bare).find());
        int classes = 0;
        Matcher nested = Pattern.compile("\\b(class|enum|interface|record)\\s+\\w+").matcher(bare);
        while (nested.find()) {
            classes++;
        }
        c.holds("at most twelve classes, but " + classes, classes <= 12);
    }

    /** A method has at most sixty lines and seven parameters. */
    private static void lengths(String bare) {
        Pattern head = Pattern.compile("^( {4}| {8})(?:(?:public|private|static|final) )*[\\w\\[\\]]+ \\w+\\(([^)]*)\\) \\{$");
        String[] lines = bare.split("\n");
        int methods = 0;
        for (int i = 0; i < lines.length; i++) {
            Matcher matcher = head.matcher(lines[i]);
            if (!matcher.find()) {
                continue;
            }
            methods++;
            int end = i;
            while (end < lines.length && !lines[end].equals(matcher.group(1) + "}")) {
                end++;
            }
            c.holds(lines[i] + " has " + (end - i + 1) + " lines", end - i + 1 <= 60);
            c.holds(lines[i] + " has few parameters", matcher.group(2).split(",").length <= 7);
        }
        c.holds("methods are found", methods > 48);
    }
}
