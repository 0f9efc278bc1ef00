import java.io.IOException;
import java.nio.file.Files;
import java.nio.file.Path;
import java.util.regex.Matcher;
import java.util.regex.Pattern;

/** The rules of LANGUAGE.md that can be seen by looking for words; it is to be run in the project's folder. */
final class LanguageTest {
    private static final Path PROGRAM = Path.of("src/main/java/MarinaBerths.java");
    private static final String[] RULED_OUT = {"->", "::", "Exact\\(", "\"\\s*\\+", "\\+\\s*\"", "\\bfinally\\b",
        "\\bimport\\b", "\\bpackage\\b", "\\bassert\\b", "\\bsynchronized\\b", "\\bString\\.",
        "\\bSystem\\.(?!arraycopy)", "\\bvar\\b", "\\bThread", "\\bRandom\\b", "\\bhashCode\\b", "\\btoString\\b",
        "\\[\\]\\[\\]\\["};
    private static final String ALLOWED_THROW =
            "throw new (IllegalStateException|IllegalArgumentException|IndexOutOfBoundsException)\\(\"[^\"]*\"\\);";
    private static final int LONGEST_METHOD = 60;

    public static void main(String[] args) throws IOException {
        String source = Files.readString(PROGRAM);
        Checks.due("signs other than 1 to 127", source.chars().filter(c -> c < 1 || c > 127).count(), 0);
        String code = source.replaceAll("(?s)/\\*.*?\\*/", "").replaceAll("//[^\n]*", "");
        for (String words : RULED_OUT) {
            Checks.due("how often it says " + words, count(words, code), 0);
        }
        Checks.due("throws of other shapes", count("\\bthrow\\b", code) - count(ALLOWED_THROW, code), 0);
        Checks.due("classes", count("\\b(class|record|enum|interface) [A-Z]", code) <= 12, true);
        methodsAreShort(code);
        Checks.finish("LanguageTest");
    }

    private static long count(String words, String code) {
        Matcher matcher = Pattern.compile(words).matcher(code);
        return matcher.results().count();
    }

    /** A method's last line is the "}" that stands as far in as its first line. */
    private static void methodsAreShort(String code) {
        String[] lines = code.split("\n");
        for (int k = 0; k < lines.length; k++) {
            if (!lines[k].matches("( {4}| {8})[A-Za-z].*\\(.*[^;]") || lines[k].contains(" = ")) {
                continue;
            }
            String end = lines[k].replaceAll("[^ ].*", "") + "}";
            int last = k;
            while (last < lines.length && !lines[last].equals(end)) {
                last++;
            }
            if (last - k >= LONGEST_METHOD) {
                Checks.tell("a method that is too long: " + lines[k].trim());
            }
        }
    }
}
