import java.io.IOException;
import java.nio.file.Files;
import java.nio.file.Path;

/** The source of the class keeps clear of what ../shared/LANGUAGE.md leaves out, as far as words tell it. */
public final class RulesTest {
    private static final String[] LEFT_OUT = {
        "import ", "package ", "->", "::", "try", "catch", "finally", "synchronized", "assert", "Exact(",
        "static {", "var ", "System.", "Math.random", "instanceof", "@", "Object", ".equals(", "hashCode",
        "toString", "NaN", "Double", "Float", "protected", "while (true)", "for (;;)",
    };
    private static final int MOST_LINES = 60;

    public static void main(String[] args) throws IOException {
        Due due = new Due();
        String source = Files.readString(Path.of("src/main/java/SoundingLine.java"));
        due.about("the source");
        for (String word : LEFT_OUT) {
            due.same(word + " is not there", word + (source.contains(word) ? " is there" : " is not there"));
        }
        due.is(0L, () -> source.chars().filter(sign -> sign != '\n' && (sign < 32 || sign > 126)).count());
        methodsAreShort(due, source.split("\n"));
        due.end();
    }

    /** A method ends at the first closing brace that stands as far in as its first line. */
    private static void methodsAreShort(Due due, String[] lines) {
        due.about("how long methods are");
        int methods = 0;
        for (int i = 0; i < lines.length; i++) {
            if (!lines[i].matches(" {4,8}[A-Za-z][^=]*[(][^=]*[^;]") || lines[i].matches(" +(if|for|while|switch|throw).*")) {
                continue;
            }
            int far = lines[i].length() - lines[i].stripLeading().length();
            int end = i;
            while (end < lines.length - 1 && !lines[end].equals(" ".repeat(far) + "}")) {
                end++;
            }
            int many = end - i + 1;
            String told = lines[i].strip();
            due.same(told + " is short", told + (many <= MOST_LINES ? " is short" : " has lines: " + many));
            methods++;
        }
        int found = methods;
        due.is(true, () -> found > 26);
    }
}
