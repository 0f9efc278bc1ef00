import java.io.File;
import java.io.IOException;
import java.lang.reflect.Method;
import java.lang.reflect.Modifier;
import java.nio.file.Files;
import java.nio.file.Path;
import java.util.List;

/** README.md tells how things are: its example runs and answers as it says, and it names every call and every test. */
final class ReadmeTest {
    private static final Path README = Path.of("README.md");
    private static final Path SELF = Path.of("src/test/java/ReadmeTest.java");
    private static final String TESTS = "src/test/java";
    private static final String FIRST_LINE = "// The example of README.md, line by line:";
    private static final String LAST_LINE = "// So far the example.";

    public static void main(String[] args) throws IOException {
        String readme = Files.readString(README);
        exampleAnswersAsItSays();
        exampleStandsInReadme(readme);
        readmeNamesEveryCall(readme);
        readmeNamesEveryTest(readme);
        readmeNamesNothingElse(readme);
        Checks.finish("ReadmeTest");
    }

    private static void exampleAnswersAsItSays() {
        // The example of README.md, line by line:
        MarinaBerths marina = new MarinaBerths();
        int berth = marina.addBerth(250, 120, true, 300);   // depth, length, exposed, rate
        int boat = marina.addBoat(95, 160, 10);             // length, draft, bonus
        marina.place(boat, berth);
        marina.pass(30);                                    // thirty days
        int owes = marina.boat(boat, 7);                    // 95 * 300 / 10 a day: 85500
        marina.pay(boat, owes);
        for (char c : "12,-40,7".toCharArray()) {           // a table of low waters is typed in first
            marina.type(c);
        }
        int numbers = marina.setTable();                    // 3; the lowest water is -40 now
        int left = marina.undo();                           // the old table is back, the text stays; 3 records are left
        int inWinter = marina.winterBerth(boat);            // NONE: there is no sheltered berth
        try {
            marina.addBoat(29, 160, 10);
        } catch (IllegalArgumentException refused) {        // too short; nothing has changed
            inWinter = marina.bestBerth(boat);              // NONE: its own berth is not free
        }
        // So far the example.
        Checks.due("example: what the boat owes", owes, 85500);
        Checks.due("example: numbers of the table", numbers, 3);
        Checks.due("example: the lowest water when it is undone", marina.info(12), 0);
        Checks.due("example: records that are left", left, 3);
        Checks.due("example: bestBerth()", inWinter, MarinaBerths.NONE);
        Checks.due("example: winterBerth()", marina.winterBerth(boat), MarinaBerths.NONE);
        Checks.due("example: number of boats", marina.info(7), 1);
        Checks.due("example: length of the text", marina.clearText(), 8);
    }

    private static void exampleStandsInReadme(String readme) throws IOException {
        List<String> self = Files.readAllLines(SELF).stream().map(String::strip).toList();
        List<String> made = self.subList(self.indexOf(FIRST_LINE) + 1, self.indexOf(LAST_LINE));
        List<String> told = readme.split("```(java)?\n")[1].lines().map(String::strip).toList();
        Checks.due("the example of README.md is the one that is run", told.equals(made), true);
    }

    private static void readmeNamesEveryCall(String readme) {
        for (Method method : MarinaBerths.class.getDeclaredMethods()) {
            if (Modifier.isPublic(method.getModifiers()) && !readme.contains("`" + method.getName() + "`")) {
                Checks.tell("README.md does not name " + method.getName());
            }
        }
    }

    private static void readmeNamesEveryTest(String readme) {
        String[] files = new File(TESTS).list();
        Checks.due("tests at hand", files != null && files.length > 0, true);
        for (String file : files) {
            String name = file.replace(".java", "");
            if (name.endsWith("Test") && !readme.contains("| `" + name + "` |")) {
                Checks.tell("README.md does not name " + name);
            }
        }
    }

    private static void readmeNamesNothingElse(String readme) {
        for (String line : readme.lines().filter(line -> line.matches("\\| `\\w+Test` \\|.*")).toList()) {
            String name = line.split("`")[1];
            Checks.due("there is the test " + name, Files.exists(Path.of(TESTS, name + ".java")), true);
        }
    }
}
