import java.nio.charset.StandardCharsets;
import java.nio.file.Files;
import java.nio.file.Path;
import java.util.regex.Matcher;
import java.util.regex.Pattern;

/** What of LANGUAGE.md can be seen in the source by plain looking. */
public final class LanguageTest {
    private static final String[] RULED_OUT = {"throw", "throws", "try", "catch", "finally", "synchronized", "assert",
        "native", "volatile", "transient", "protected", "package", "strictfp", "yield", "sealed", "permits", "var",
        "super", "goto", "System.out", "System.nanoTime", "Random", "Thread", "Object", "Class", "hashCode", "toString",
        "Exact", "NaN", "HashMap", "Iterator", "Exception"};
    private static final int LONGEST_METHOD = 60;

    public static void main(String[] args) throws Exception {
        Checks checks = new Checks("LanguageTest");
        String source = Files.readString(Path.of("src/main/java/SoleGuest.java"), StandardCharsets.UTF_8);
        checks.isSo("signs 10 and 32 to 126 alone", source.chars().allMatch(c -> c == 10 || c >= 32 && c <= 126));
        String bare = source.replaceAll("(?s)/\\*.*?\\*/", "").replaceAll("//[^\n]*", "")
            .replaceAll("\"[^\"\n]*\"", "\"\"").replaceAll("'[^'\n]'", "' '");
        for (String word : RULED_OUT) {
            checks.isSo("no " + word, !Pattern.compile("\\b" + Pattern.quote(word) + "\\b").matcher(bare).find());
        }
        checks.isSo("no lambda, no method reference", !bare.contains("->") && !bare.contains("::"));
        checks.isSo("no annotation", !bare.contains("@"));
        Matcher imports = Pattern.compile("import\\s+([^;]+);").matcher(bare);
        while (imports.find()) {
            checks.isSo("import of " + imports.group(1), imports.group(1).matches("java\\.util\\.(Arrays|ArrayList|List)"));
        }
        Matcher library = Pattern.compile("\\b(Arrays|System|Math|Integer|Long)\\.(\\w+)").matcher(bare);
        while (library.find()) {
            checks.isSo("library's " + library.group(), library.group().matches(
                "Arrays\\.(fill|copyOf|copyOfRange)|System\\.arraycopy|Math\\.(min|max|abs)|(Integer|Long)\\.bitCount"));
        }
        checkStatics(checks, bare);
        checkLengths(checks, bare);
        checks.close();
    }

    private static void checkStatics(Checks checks, String bare) {
        Matcher statics = Pattern.compile("(?m)^\\s*(\\w+ )*static (?!final )[^(\n]*[=;{]\\s*$").matcher(bare);
        while (statics.find()) {
            checks.isSo("static that is not final: " + statics.group().trim(), false);
        }
        checks.isSo("no static block", !Pattern.compile("\\bstatic\\s*\\{").matcher(bare).find());
        Matcher inside = Pattern.compile("(?m)^ +(.*)\\b(class|enum|record|interface) \\w+").matcher(bare);
        while (inside.find()) {
            checks.isSo("class inside is static: " + inside.group().trim(), inside.group(1).contains("static "));
        }
    }

    /** A method begins at a line that ends with "{" and has "(", and ends at the "}" that stands as far in. */
    private static void checkLengths(Checks checks, String bare) {
        String[] lines = bare.split("\n", -1);
        for (int i = 0; i < lines.length; i++) {
            Matcher head = Pattern.compile("^( {4}| {8})(public|private) [^=]*\\(.*\\) \\{$").matcher(lines[i]);
            if (head.matches()) {
                int end = i;
                while (end < lines.length && !lines[end].equals(head.group(1) + "}")) {
                    end++;
                }
                checks.isSo("short enough: " + lines[i].trim(), end - i < LONGEST_METHOD);
            }
        }
    }
}
