import java.io.IOException;
import java.lang.reflect.InvocationTargetException;
import java.lang.reflect.Method;
import java.nio.file.Files;
import java.nio.file.Path;
import java.util.ArrayList;
import java.util.List;
import java.util.regex.Matcher;
import java.util.regex.Pattern;
import javax.tools.ToolProvider;

/** Runs the lines of README.md's java blocks; each that has a number behind // must answer that number. */
public final class ReadmeTest extends Checks {
    private static final Path PAGE = Path.of("README.md");
    private static final Pattern ANSWERED = Pattern.compile("(?:(int|long) (\\w+) = )?(.*\\));\\s*// (-?\\d+)(?!\\d).*");
    private static final int LEAST_ANSWERS = 30;

    private static int answers = 0;

    public static void main(String[] args) throws IOException, ReflectiveOperationException {
        run(program(Files.readAllLines(PAGE)));
        due("at least " + LEAST_ANSWERS + " lines with an answer", Math.min(answers, LEAST_ANSWERS), LEAST_ANSWERS);
        end();
    }

    private static String program(List<String> page) {
        List<String> lines = new ArrayList<>();
        boolean java = false;
        for (int i = 0; i < page.size(); i++) {
            String line = page.get(i);
            if (line.startsWith("```")) {
                java = line.equals("```java");
            } else if (java) {
                lines.add(statement(line, i + 1));
            }
        }
        return "final class Page extends Checks { static void play() {\n" + String.join("\n", lines) + "\n} }\n";
    }

    private static String statement(String line, int number) {
        Matcher m = ANSWERED.matcher(line);
        if (!m.matches()) {
            return line;
        }
        answers++;
        String kept = m.group(1) == null ? "" : m.group(1) + " " + m.group(2) + " = " + m.group(3) + "; ";
        String asked = m.group(1) == null ? m.group(3) : m.group(2);
        return kept + "due(\"README.md line " + number + "\", " + asked + ", " + m.group(4) + "L);";
    }

    /** The page's class comes beside the tests' own: only there it may see what the tests share. */
    private static void run(String program) throws IOException, ReflectiveOperationException {
        String classes = System.getProperty("java.class.path");
        Path source = Files.writeString(Path.of(classes, "Page.java"), program);
        int failed = ToolProvider.getSystemJavaCompiler().run(null, null, null,
            "-encoding", "UTF-8", "-proc:none", "-cp", classes, "-d", classes, source.toString());
        due("the page's lines compile", failed, 0);
        if (failed != 0) {
            return;
        }
        Method play = Class.forName("Page").getDeclaredMethod("play");
        play.setAccessible(true);
        try {
            play.invoke(null);
        } catch (InvocationTargetException e) {
            due("the page's lines ended by " + e.getCause(), 1, 0);
        }
    }
}
