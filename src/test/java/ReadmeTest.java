import java.io.IOException;
import java.lang.reflect.Method;
import java.lang.reflect.Modifier;
import java.nio.file.Files;
import java.nio.file.Path;
import java.util.ArrayList;
import java.util.List;
import java.util.regex.Matcher;
import java.util.regex.Pattern;

/** The lines of Java in README.md, followed on one object: each answers what is written behind it. */
public final class ReadmeTest {
    private static final Pattern TAPE = Pattern.compile("for \\(char c : \"(.*)\"\\.toCharArray\\(\\)\\) x\\.feed\\(1, c\\);");
    private static final Pattern CALL = Pattern.compile("x\\.(\\w+\\(.*\\)); +// ([-\\w]+)(: .*)?");

    private static final Sentences s = new Sentences();

    public static void main(String[] args) throws IOException {
        String text = Files.readString(Path.of("README.md"));
        s.promise("README");
        s.says("each line answers what is written behind it", steps(text));
        for (Method m : VotedFor.class.getDeclaredMethods()) {
            if (!Modifier.isPublic(m.getModifiers())) continue;
            s.due(m.getName() + " is shown", text.contains("x." + m.getName() + "(") ? 1 : 0, 1);
        }
        s.end();
    }

    /** A line that can't be read is an error, so that none is left out unseen. */
    private static String[] steps(String text) {
        int begin = text.indexOf("```java\n");
        int end = text.indexOf("\n```", begin + 1);
        List<String> steps = new ArrayList<>();
        for (String line : text.substring(begin + 8, end).split("\n")) {
            Matcher tape = TAPE.matcher(line);
            Matcher call = CALL.matcher(line);
            if (tape.matches()) steps.add("tape " + tape.group(1));
            else if (call.matches()) steps.add(call.group(1) + " = " + call.group(2));
            else if (!line.isEmpty() && !line.startsWith("// ") && !line.equals("VotedFor x = new VotedFor();")) {
                throw new IllegalStateException("README.md: " + line);
            }
        }
        return steps.toArray(new String[0]);
    }
}
