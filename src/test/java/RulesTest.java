import java.io.IOException;
import java.nio.file.Files;
import java.nio.file.Path;

/** The source of the class keeps clear of what ../shared/LANGUAGE.md leaves out, as far as words tell it. */
public final class RulesTest {
    private static final String[] LEFT_OUT = {
        "import ", "package ", "->", "::", "try", "catch", "finally", "synchronized", "assert", "Exact(",
        "static {", "var ", "System.", "Math.random", "instanceof", "@",
    };

    public static void main(String[] args) throws IOException {
        Due due = new Due();
        String source = Files.readString(Path.of("src/main/java/SoundingLine.java"));
        due.about("the source");
        for (String word : LEFT_OUT) {
            due.same(word + " is not there", word + (source.contains(word) ? " is there" : " is not there"));
        }
        due.is(0L, () -> source.chars().filter(sign -> sign != '\n' && (sign < 32 || sign > 126)).count());
        due.end();
    }
}
