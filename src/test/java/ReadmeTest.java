import java.io.IOException;
import java.nio.file.Files;
import java.nio.file.Path;
import java.util.ArrayList;
import java.util.List;

/** What README.md shows of the class is what the class answers, and it names every test that there is. */
public final class ReadmeTest {
    private final Due due = new Due();
    private final String readme;
    private final List<String> shown = new ArrayList<>();
    private int next = 0;

    private ReadmeTest() throws IOException {
        readme = Files.readString(Path.of("README.md"));
        for (String row : readme.split("\n")) {
            if (row.startsWith("line.")) {
                shown.add(row);
            }
        }
    }

    public static void main(String[] args) throws IOException {
        ReadmeTest test = new ReadmeTest();
        test.example();
        test.namesTests();
        test.due.end();
    }

    private void example() {
        due.about("README's example");
        SoundingLine line = new SoundingLine();
        answers("line.write(11, 4)", () -> line.write(11, 4));
        answers("line.write(5, 4)", () -> line.write(5, 4));
        answers("line.block(4, 7, 70, 37, 19, 15)", () -> line.block(4, 7, 70, 37, 19, 15));
        answers("line.weave(2, 7)", () -> line.weave(2, 7));
        answers("line.mark(2)", () -> line.mark(2));
        answers("line.hurt()", () -> line.hurt());
        answers("line.ofStage(0, 3)", () -> line.ofStage(0, 3));
        answers("line.errors()", () -> line.errors());
        answers("line.breaks(0)", () -> line.breaks(0));
        answers("line.write(2, 1)", () -> line.write(2, 1));
        due.is(shown.size(), () -> next);
    }

    /** The next row of README shows this call, with its answer behind it. */
    private void answers(String call, Due.Call made) {
        String row = next < shown.size() ? shown.get(next) : "";
        next++;
        due.same(call + ";", row.replaceAll(" *//.*", ""));
        String told = Due.told(made).replace("throws.", "throws ");
        due.same(told, row.replaceAll(".*// ", "").replaceAll(":.*", ""));
    }

    private void namesTests() throws IOException {
        due.about("README's list of tests");
        try (var files = Files.list(Path.of("src/test/java"))) {
            for (Path file : (Iterable<Path>) files::iterator) {
                String name = file.getFileName().toString().replace(".java", "");
                due.is(true, () -> readme.contains("`" + name + "`"));
            }
        }
    }
}
