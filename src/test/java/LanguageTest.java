import java.nio.file.Files;
import java.nio.file.Path;
import java.util.List;
import java.util.regex.Matcher;
import java.util.regex.Pattern;

/** What of LANGUAGE.md can be seen in the source's text. */
public final class LanguageTest {
    public static void main(String[] args) throws Exception {
        String source = Files.readString(Path.of("src/main/java/LieKitchen.java"));
        String code = source.replaceAll("(?s)/\\*.*?\\*/", "").replaceAll("//[^\n]*", "")
                .replaceAll("\"[^\"\n]*\"", "\"\"").replaceAll("'(\\\\.|[^'])'", "' '");
        Check.isTrue("ASCII", source.chars().allMatch(c -> c == '\n' || c >= 32 && c < 127));
        for (String word : List.of("throw", "throws", "try", "catch", "finally", "synchronized", "assert", "package",
                "protected", "volatile", "transient", "native", "double", "float", "var", "yield")) {
            none(code, "\\b" + word + "\\b");
        }
        for (String sign : List.of("->", "::", "@", "Exact\\(", "\\.equals\\(", "hashCode", "toString", "Random",
                "Thread", "java\\.(io|nio|net|time)", "System\\.(?!arraycopy)", "\\.class\\b", "while \\(true\\)",
                "for \\(;;", "static \\{")) {
            none(code, sign);
        }
        Matcher imports = Pattern.compile("import ([\\w.*]+);").matcher(code);
        while (imports.find()) {
            Check.isTrue(imports.group(), imports.group(1).equals("java.util.Arrays"));
        }
        Check.isTrue("classes", Pattern.compile("\\bclass \\w+").matcher(code).results().count() <= 12);
        methods(code);
        Check.finish();
    }

    private static void none(String code, String pattern) {
        Matcher m = Pattern.compile(pattern).matcher(code);
        Check.isTrue("no " + pattern, !m.find());
    }

    /** At most seven parameters, at most some sixty lines. */
    private static void methods(String code) {
        Matcher m = Pattern.compile("(?m)^( +)(public|private)[\\w \\[\\]]*? (\\w+)\\(([^)]*)\\) \\{$").matcher(code);
        int methods = 0;
        while (m.find()) {
            methods++;
            int close = code.indexOf("\n" + m.group(1) + "}", m.end());
            long lines = code.substring(m.start(), close).lines().count();
            Check.isTrue(m.group(3) + " has " + lines + " lines", lines <= 60);
            Check.isTrue(m.group(3) + "'s parameters", m.group(4).split(",").length <= 7);
        }
        Check.isTrue("methods were seen", methods > 100);
    }
}
