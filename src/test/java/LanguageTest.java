import java.io.IOException;
import java.nio.file.Files;
import java.nio.file.Path;

/** Words that ../shared/LANGUAGE.md rules out do not stand in the class's source. */
public final class LanguageTest {
    private static final String[] RULED_OUT = {
        "import ", "package ", "->", "::", "catch", "finally", "synchronized", "assert ", "static {",
        "Exact(", "System.out", "System.nano", "System.current", "random", "Thread", "hashCode", "var ",
        "for (;;)", "while (true)", "+ \"", "\" +",
    };

    public static void main(String[] arguments) throws IOException {
        String source = Files.readString(Path.of("src/main/java/CommitWaitStore.java"));
        for (String word : RULED_OUT) {
            Check.due("the source holds '" + word + "'", source.contains(word), false);
        }
        Check.due("a static field is not final", source.matches("(?s).*static (int|long|boolean|char|String)[ \\[].*"), false);
        Check.end("LanguageTest");
    }
}
