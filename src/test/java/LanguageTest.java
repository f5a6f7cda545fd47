import java.io.IOException;
import java.nio.file.Files;
import java.nio.file.Path;
import java.util.regex.Matcher;
import java.util.regex.Pattern;

/** What ../shared/LANGUAGE.md rules out by its words does not stand in the class's source. */
public final class LanguageTest {
    /** The number of the rule, and what would break it. */
    private static final String[][] RULED_OUT = {
        {"the top", "(?m)^package "},
        {"2", "::"},
        {"2", "(?<!case [^\\n]{0,80}|default )->"},
        {"4", "import (?!java\\.util\\.(ArrayList|List|Arrays|Iterator|NoSuchElementException);)"},
        {"4", "Exact\\("},
        {"4", "System\\.(?!arraycopy)"},
        {"5", "\\bstatic \\{"},
        {"5", "\\bstatic (int|long|boolean|char|String|byte)\\b[^(\\n]*[=;]"},
        {"6", "\\b(finally|synchronized|assert)\\b"},
        {"6", "catch \\((Exception|Throwable|Error|NullPointer|ClassCast|NegativeArray|ArrayStore|ArrayIndex|StringIndex)"},
        {"6", "\\b(int hashCode|boolean equals|String toString)\\("},
        {"9", "for \\([^;\\n]*;\\s*;|while \\(true\\)"},
        {"10", "\\+ \"|\" \\+"},
        {"13", "\\b(Random|Thread|Runtime|Process|File|Socket|Instant|Clock|getenv|nanoTime)\\b"},
    };

    public static void main(String[] arguments) throws IOException {
        String source = Files.readString(Path.of("src/main/java/CommitWaitStore.java"));
        String code = source.replaceAll("(?s)/\\*.*?\\*/", "").replaceAll("//[^\\n]*", "");
        for (String[] rule : RULED_OUT) {
            Matcher found = Pattern.compile(rule[1]).matcher(code);
            if (found.find()) {
                Check.report("rule " + rule[0] + " of LANGUAGE.md: the source holds '" + found.group() + "'");
            }
        }
        Check.end("LanguageTest");
    }
}
