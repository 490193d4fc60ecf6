import java.io.IOException;
import java.nio.file.DirectoryStream;
import java.nio.file.Files;
import java.nio.file.Path;
import java.util.ArrayList;
import java.util.List;
import java.util.Set;
import java.util.TreeSet;

/** Tests that what README.md says of the use and of the tests holds; it is run in the folder that holds README.md. */
public final class ReadmeTest {
    private static final Path README = Path.of("README.md");
    private static final Path TESTS = Path.of("src/test/java");

    private static final Checks checks = new Checks("ReadmeTest");

    public static void main(String[] args) throws IOException {
        List<String> readme = Files.readAllLines(README);
        checks.run("the example", ReadmeTest::theExampleAnswersWhatItSays);
        checks.run("refused calls", ReadmeTest::callsAreRefusedAsItSays);
        theExampleIsTheOneThatIsTested(readme);
        eachProgramOfTheTestsIsNamed(String.join("\n", readme));
        checks.end();
    }

    // The lines up to the empty one are those of README.md; theExampleIsTheOneThatIsTested compares them.
    private static void theExampleAnswersWhatItSays() {
        GridCommons grid = new GridCommons();
        grid.setShare(0, 2);                    // owner 0 has two fourths of the sun
        grid.setPrice(3);                       // 0.75 for quarters that are closed from now on
        grid.tell(0, 30);                       // the meter of owner 0 for the next quarter
        boolean overloaded = grid.close(20);    // false; the other four are gaps, and are guessed
        double fromSun = grid.fromSun(0, 0);    // 20.0: what owner 0 got in quarter 0, 10.0 of it by contract
        double bought = grid.bought(0, 0);      // 10.0: what owner 0 needed besides
        double change = grid.replace(1, 0, 12); // 9.0: the true use of a gap is told, and the bill changes
        double bill = grid.bill(1);             // 9.0

        checks.holds("not overloaded", !overloaded);
        checks.same("from the sun", fromSun, 20.0);
        checks.same("bought", bought, 10.0);
        checks.same("the change", change, 9.0);
        checks.same("the bill", bill, 9.0);
        checks.same("two fourths", grid.setShare(0, 0), 2);
        checks.same("for 0.75", grid.bill(0), 7.5);
    }

    private static void callsAreRefusedAsItSays() {
        GridCommons grid = new GridCommons();
        checks.fails("out of range", IllegalArgumentException.class, () -> grid.tell(0, 51));
        checks.fails("not closed", IndexOutOfBoundsException.class, () -> grid.use(0, 0));
        for (int quarter = 0; quarter < 60; quarter++) {
            grid.close(0);
        }
        checks.holds("tell answers behind the 60th", !grid.tell(0, 50));
        checks.fails("close does not", IllegalStateException.class, () -> grid.close(0));
    }

    private static void theExampleIsTheOneThatIsTested(List<String> readme) throws IOException {
        List<String> tested = Files.readAllLines(TESTS.resolve("ReadmeTest.java"));
        List<String> example = example(readme);
        checks.holds("there is an example", !example.isEmpty());
        int first = example.isEmpty() ? -1 : indexOf(tested, example.get(0));
        for (int i = 0; i < example.size(); i++) {
            boolean isTested = first >= 0 && first + i < tested.size()
                    && tested.get(first + i).strip().equals(example.get(i));
            checks.holds("tested: " + example.get(i), isTested);
        }
        int behind = first + example.size();
        checks.holds("no more is tested", behind < tested.size() && tested.get(behind).isBlank());
    }

    private static List<String> example(List<String> readme) {
        List<String> example = new ArrayList<>();
        boolean inside = false;
        for (String line : readme) {
            if (line.startsWith("```")) {
                inside = line.equals("```java");
            } else if (inside) {
                example.add(line);
            }
        }
        return example;
    }

    private static int indexOf(List<String> lines, String wanted) {
        for (int i = 0; i < lines.size(); i++) {
            if (lines.get(i).strip().equals(wanted)) {
                return i;
            }
        }
        return -1;
    }

    private static void eachProgramOfTheTestsIsNamed(String readme) throws IOException {
        Set<String> programs = new TreeSet<>();
        try (DirectoryStream<Path> files = Files.newDirectoryStream(TESTS, "*.java")) {
            for (Path file : files) {
                String name = file.getFileName().toString();
                programs.add(name.substring(0, name.length() - ".java".length()));
            }
        }
        for (String program : programs) {
            checks.holds(program + " is named", readme.contains("`" + program + "`"));
        }
        for (String piece : readme.split("`")) {
            boolean isAProgram = piece.matches("[A-Z][A-Za-z]+Test");
            checks.holds(piece + " is there", !isAProgram || programs.contains(piece));
        }
    }
}
