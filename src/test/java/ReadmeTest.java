import java.io.IOException;
import java.nio.file.Files;
import java.nio.file.Path;
import java.util.ArrayList;
import java.util.List;

/** The example of README.md: its lines are those that run here, and they answer what it says. */
public final class ReadmeTest {
    private static final Due due = new Due();
    private static final List<String> example = new ArrayList<>();
    private static int next = 0;

    // .ci/run starts every test in the project's own directory.
    public static void main(String[] args) throws IOException {
        readExample();
        MovieBoxes x = new MovieBoxes();
        line("MovieBoxes x = new MovieBoxes();");
        answers("x.append(0x0544010203L, 5);", x.append(0x0544010203L, 5), 5);
        answers("x.append(0x174D1554L, 4);", x.append(0x174D1554L, 4), 9);
        answers("x.append(0x057301030AL, 5);", x.append(0x057301030AL, 5), 14);
        answers("x.append(0x066B01010307L, 6);", x.append(0x066B01010307L, 6), 20);
        answers("x.append(0x047A0103L, 4);", x.append(0x047A0103L, 4), 24);
        answers("x.append(0x046F0102L, 4);", x.append(0x046F0102L, 4), 28);
        says("x.check();", x.check());
        says("x.sample(0, 2, 0);", x.sample(0, 2, 0));
        says("x.shown(0, 19);", x.shown(0, 19));
        says("x.fastStart();", x.fastStart());
        says("x.sample(0, 2, 0);", x.sample(0, 2, 0));
        due.is("lines of the example", example.size(), next);
        due.end();
    }

    private static void readExample() throws IOException {
        boolean inside = false;
        for (String text : Files.readAllLines(Path.of("README.md"))) {
            if (text.startsWith("```")) {
                inside = text.equals("```java");
            } else if (inside) {
                example.add(text);
            }
        }
    }

    /** The comment of the example's next line, which must be this code. */
    private static String line(String code) {
        String text = next < example.size() ? example.get(next) : "";
        next++;
        due.is("line " + next + " of the example is " + code, text.startsWith(code), true);
        int comment = text.indexOf("// ");
        return comment < 0 ? "" : text.substring(comment + 3);
    }

    private static void answers(String code, int got, int want) {
        line(code);
        due.is(code, got, want);
    }

    private static void says(String code, int got) {
        String said = line(code);
        due.is(code + " answered " + got + ", README.md says " + said, said.matches(got + "(:.*)?"), true);
    }
}
