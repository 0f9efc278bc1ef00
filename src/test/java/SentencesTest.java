import java.io.File;
import java.io.IOException;
import java.lang.reflect.Method;
import java.nio.file.Files;
import java.nio.file.Path;
import java.util.Arrays;
import java.util.Map;
import java.util.TreeMap;

/** Every sentence of the document's terms and promises is borne, whole, by a test of its own, and none is made up. */
final class SentencesTest {
    private static final String DOCUMENT = "../shared/DOC.md";
    private static final String TESTS = "src/test/java";

    public static void main(String[] args) throws IOException, ClassNotFoundException {
        if (!Files.exists(Path.of(DOCUMENT))) {
            System.out.println("SentencesTest: the document is not at hand, so the tests are not held against it");
            return;
        }
        Map<Integer, String> sections = sections();
        Checks.due("number of promises", sections.size() - 1, 34);
        Map<Integer, boolean[]> borne = new TreeMap<>();
        sections.forEach((promise, words) -> borne.put(promise, new boolean[words.length()]));
        File[] files = new File(TESTS).listFiles((folder, name) -> name.matches("Edges\\w+Test\\.java"));
        Checks.due("tests of edges", files != null && files.length > 0, true);
        for (File file : files) {
            for (Method method : Class.forName(file.getName().replace(".java", "")).getDeclaredMethods()) {
                Says says = method.getAnnotation(Says.class);
                if (says != null) {
                    mark(method, says, sections, borne);
                }
            }
        }
        borne.forEach((promise, marks) -> tellBare(promise, sections.get(promise), marks));
        Checks.finish("SentencesTest");
    }

    private static void mark(Method method, Says says, Map<Integer, String> sections, Map<Integer, boolean[]> borne) {
        String section = sections.getOrDefault(says.promise(), "");
        for (String words : says.words()) {
            int start = section.indexOf(words);
            if (start < 0) {
                Checks.tell(method.getName() + " bears words that promise " + says.promise() + " does not: " + words);
            } else {
                Arrays.fill(borne.get(says.promise()), start, start + words.length(), true);
            }
        }
    }

    /** Only letters and digits count: what stands between two clauses says nothing by itself, but for "and". */
    private static void tellBare(int promise, String section, boolean[] marks) {
        StringBuilder bare = new StringBuilder();
        for (int k = 0; k <= section.length(); k++) {
            if (k < section.length() && !marks[k]) {
                bare.append(section.charAt(k));
                continue;
            }
            String words = bare.toString().replaceAll("[^A-Za-z0-9]+", " ").trim();
            if (!words.isEmpty() && !words.equals("and")) {
                Checks.tell("no test bears these words of promise " + promise + ": " + words);
            }
            bare.setLength(0);
        }
    }

    /** The words of each promise; under 0 those before the promises that promise something. */
    private static Map<Integer, String> sections() throws IOException {
        Map<Integer, StringBuilder> all = new TreeMap<>();
        int promise = -1;
        for (String line : Files.readAllLines(Path.of(DOCUMENT))) {
            if (line.startsWith("#")) {
                promise = promiseOf(line);
            } else if (promise >= 0 && saysSomething(line)) {
                all.computeIfAbsent(promise, k -> new StringBuilder()).append(plain(line)).append(' ');
            }
        }
        Map<Integer, String> sections = new TreeMap<>();
        all.forEach((number, words) -> sections.put(number, words.toString()));
        return sections;
    }

    private static int promiseOf(String heading) {
        if (heading.equals("## What it is") || heading.equals("## Terms")) {
            return 0;
        }
        return heading.startsWith("## Promise ") ? Integer.parseInt(heading.replaceAll("\\D+(\\d+):.*", "$1")) : -1;
    }

    /** Not headings, fences, the summary, what the interface says ahead of its calls, and parameters without bounds. */
    private static boolean saysSomething(String line) {
        boolean bare = line.isBlank() || line.startsWith("```") || line.matches("[A-Z, ]+");
        boolean summary = line.startsWith("Moorings of a marina: ") || line.startsWith("Ahead of the calls ");
        return !bare && !summary && !line.matches("- `\\w+`: (a|the|any|its|whether) [^0-9]*");
    }

    private static String plain(String line) {
        // What stands before the words: the face of the method, or the number of a step.
        String words = line.replaceFirst("^`[^`]*\\)[^`]*`: |^ +\\d\\. |^- ", "");
        return words.replace("`", "").trim();
    }
}
