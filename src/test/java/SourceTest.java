import java.io.IOException;
import java.nio.charset.StandardCharsets;
import java.nio.file.Files;
import java.nio.file.Path;
import java.util.List;
import java.util.regex.Matcher;
import java.util.regex.Pattern;

/** Rules of LANGUAGE.md that the text of the program shows. The path of the program is the argument. */
public final class SourceTest {
    private static final String[] RULED_OUT = {"import", "package", "try", "catch", "finally", "throw", "throws",
        "synchronized", "assert", "Object", "Override", "super", "protected", "double", "volatile", "Float", "Arrays"};
    private static final Pattern LIBRARY = Pattern.compile("\\b(System|Math|Integer|Long|String)\\.(\\w+)");
    private static final List<String> ALLOWED = List.of("System.arraycopy", "Integer.bitCount");
    private static final int LONGEST_METHOD = 60;

    private final Check check = new Check("SourceTest");

    public static void main(String[] args) throws IOException {
        new SourceTest().all(Files.readString(Path.of(args[0]), StandardCharsets.UTF_8));
    }

    private void all(String source) {
        for (int k = 0; k < source.length(); k++) {
            char sign = source.charAt(k);
            check.holds("sign " + k + " is plain", sign == '\n' || sign >= 32 && sign < 127);
        }
        String code = source.replaceAll("(?s)/\\*.*?\\*/", "").replaceAll("//[^\n]*", "");
        for (String word : RULED_OUT) {
            check.holds("no " + word, !Pattern.compile("\\b" + word + "\\b").matcher(code).find());
        }
        check.holds("no lambda or method reference", !code.contains("->") && !code.contains("::"));
        check.holds("no text", !code.contains("\""));
        Matcher library = LIBRARY.matcher(code);
        while (library.find()) {
            check.holds(library.group() + " is in the library", ALLOWED.contains(library.group()));
        }
        newOnlyInConstructors(code);
        methodLengths(code);
        check.end();
    }

    /** Nothing is made after an object was made, so calls need no room. */
    private void newOnlyInConstructors(String code) {
        boolean inConstructor = false;
        for (String line : code.split("\n")) {
            if (line.matches(" {4,8}(public |private )?[A-Z]\\w+\\(\\) \\{")) {
                inConstructor = true;
            } else if (line.matches(" {4,8}\\}")) {
                inConstructor = false;
            }
            check.holds("made in a constructor: " + line, inConstructor || !line.contains(" new "));
        }
    }

    private void methodLengths(String code) {
        int begin = 0;
        String[] lines = code.split("\n");
        for (int k = 0; k < lines.length; k++) {
            if (lines[k].matches(" {4,8}[a-z].*\\) \\{")) {
                begin = k;
            } else if (lines[k].matches(" {4,8}\\}")) {
                check.holds("short method: " + lines[begin], k - begin < LONGEST_METHOD);
            }
        }
    }
}
