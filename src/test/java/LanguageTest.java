import java.io.IOException;
import java.nio.file.Files;
import java.nio.file.Path;
import java.util.regex.Matcher;
import java.util.regex.Pattern;

/** Looks for what LANGUAGE.md rules out in the text of the class, as far as a text shows it. */
public final class LanguageTest {
    private static final Path SOURCE = Path.of("src/main/java/SewsUpTheAfternoon.java");
    private static final String FACE = "set|seam|told|feed|text|force|hours|pass|run|cut|unpick|thread|move|tells|film"
        + "|drawn|chance|image|back|count|sheet|cell|copy|seams|taken";
    private static int wrong = 0;

    public static void main(String[] args) throws IOException {
        String bare = bare(Files.readString(SOURCE));
        none(bare, "rule 6", "\\b(throw|throws|try|catch|synchronized|assert|finally)\\b");
        none(bare, "rule 2, lambda or method reference", "->|::");
        none(bare, "rule 4, imports but Arrays", "import (?!java\\.util\\.Arrays;|java\\.util\\.ArrayList;|java\\.util\\.List;)");
        none(bare, "rule 4, Exact", "Exact\\b");
        none(bare, "rule 10, joining texts by +", "\"\\s*\\+|\\+\\s*\"");
        none(bare, "rule 13", "\\b(Random|Thread|currentTimeMillis|nanoTime|System\\.(?!arraycopy))");
        none(bare, "rule 5, static that is not final", "\\bstatic (?!final |void |int |long |boolean |String [a-z]\\w*\\()");
        none(bare, "rule 1, private method with a public one's name", "private [\\w\\[\\] ]*\\b(" + FACE + ")\\(");
        none(bare, "rule 1, a member that is neither public nor private", "(?m)^ {4}(?!public |private |\\}|//|/\\*|\\*| )\\S");
        face(bare);
        lengths(bare);
        System.out.println(wrong == 0 ? "no rule of the language is seen broken" : wrong + " places");
        if (wrong != 0) {
            System.exit(1);
        }
    }

    /** The text without comments, and with texts that hold nothing. */
    private static String bare(String source) {
        return source.replaceAll("(?s)/\\*.*?\\*/", "").replaceAll("//[^\n]*", "").replaceAll("\"[^\"\n]*\"", "\"\"");
    }

    private static void none(String source, String rule, String pattern) {
        Matcher m = Pattern.compile(pattern).matcher(source);
        while (m.find()) {
            wrong++;
            int line = (int) source.substring(0, m.start()).chars().filter(c -> c == '\n').count() + 1;
            System.out.println(rule + ": " + m.group().trim() + " (line " + line + " without comments)");
        }
    }

    private static void face(String source) {
        Matcher m = Pattern.compile("(?m)^ {4}public (int|long) (" + FACE + ")\\(").matcher(source);
        int n = 0;
        while (m.find()) {
            n++;
        }
        if (n != 25) {
            wrong++;
            System.out.println("the face has " + n + " methods, due are 25");
        }
    }

    private static void lengths(String source) {
        int from = -1;
        String[] lines = source.split("\n");
        for (int i = 0; i < lines.length; i++) {
            if (lines[i].matches("( {4}| {8})(public|private)[^;=]*\\) \\{")) {
                from = i;
            } else if (lines[i].matches("( {4}| {8})\\}") && from >= 0) {
                if (i - from > 60) {
                    wrong++;
                    System.out.println("rule 11: " + (i - from) + " lines: " + lines[from].trim());
                }
                from = -1;
            }
        }
    }
}
