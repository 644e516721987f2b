import java.io.IOException;
import java.nio.charset.StandardCharsets;
import java.nio.file.Files;
import java.nio.file.Path;
import java.util.List;
import java.util.regex.Matcher;
import java.util.regex.Pattern;

/** Rules of LANGUAGE.md that the text of the program shows. The path of the program is the argument. */
public final class SourceTest {
    private static final String[] RULED_OUT = {"package", "finally", "synchronized", "assert", "protected", "volatile",
        "native", "Object", "Float", "Double", "Random", "Thread", "File", "Files", "Map", "HashMap", "Set", "HashSet",
        "Throwable", "Exception", "Error", "ArrayIndexOutOfBoundsException", "NullPointerException",
        "ClassCastException", "NegativeArraySizeException", "ArrayStoreException", "getMessage", "hashCode"};
    private static final Pattern LIBRARY = Pattern.compile("\\b(System|Arrays|List)\\.(\\w+)");
    private static final List<String> ALLOWED =
            List.of("System.arraycopy", "Arrays.copyOf", "Arrays.copyOfRange", "Arrays.fill", "List.of");
    private static final int LONGEST_METHOD = 70;

    private final Check check = new Check("SourceTest");

    public static void main(String[] args) throws IOException {
        new SourceTest().all(Files.readString(Path.of(args[0]), StandardCharsets.UTF_8));
    }

    private void all(String source) {
        String code = source.replaceAll("(?s)/\\*.*?\\*/", "").replaceAll("//[^\n]*", "");
        for (int k = 0; k < code.length(); k++) {
            check.holds("sign " + k + " of the code is plain", code.charAt(k) < 128);
        }
        for (String word : RULED_OUT) {
            check.holds("no " + word, !Pattern.compile("\\b" + word + "\\b").matcher(code).find());
        }
        check.holds("no method reference", !code.contains("::"));
        check.holds("no function that ends in Exact", !Pattern.compile("\\w+Exact\\b").matcher(code).find());
        Matcher library = LIBRARY.matcher(code);
        while (library.find()) {
            check.holds(library.group() + " is in the library", ALLOWED.contains(library.group()));
        }
        lines(code.split("\n"));
        check.end();
    }

    /** Rules 2 and 11: no lambda, and methods of some sixty lines. */
    private void lines(String[] lines) {
        int begin = 0;
        for (int k = 0; k < lines.length; k++) {
            String line = lines[k].trim();
            check.holds("no lambda: " + line, !line.contains("->") || line.matches("(case|default)\\b.*"));
            if (lines[k].matches(" {4,8}[A-Za-z].*\\) \\{")) {
                begin = k;
            } else if (lines[k].matches(" {4,8}\\}")) {
                check.holds("short method: " + lines[begin], k - begin < LONGEST_METHOD);
            }
        }
    }
}
