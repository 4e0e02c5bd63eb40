import java.io.IOException;
import java.lang.reflect.Method;
import java.lang.reflect.Modifier;
import java.nio.file.Files;
import java.nio.file.Path;
import java.util.Arrays;
import java.util.Set;
import java.util.TreeSet;
import java.util.regex.Matcher;
import java.util.regex.Pattern;

/** The example of README.md: its calls are made, and the number that begins a call's comment is the due answer. */
public final class ReadmeTest {
    private static final Path README = Path.of("README.md");
    private static final Pattern EXAMPLE = Pattern.compile("(?s)```java\\n(.*?)```");
    private static final Pattern MADE = Pattern.compile("LaneJudge judge = new LaneJudge\\((\\d+)\\);.*");
    private static final Pattern CALL = Pattern.compile("judge\\.(\\w+)\\(([^)]*)\\); *// (-?\\d+)?.*");

    public static void main(String[] args) throws IOException, ReflectiveOperationException {
        Matcher example = EXAMPLE.matcher(Files.readString(README));
        if (example.find()) {
            follow(example.group(1).lines().filter(line -> !line.isBlank()).toArray(String[]::new));
        }
        Due.end();
    }

    private static void follow(String[] lines) throws ReflectiveOperationException {
        Matcher made = MADE.matcher(lines[0]);
        Due.holds("the example begins with a new object", made.matches());
        LaneJudge judge = new LaneJudge(Integer.parseInt(made.group(1)));
        Set<String> called = new TreeSet<>();
        for (int n = 1; n < lines.length; n++) {
            Matcher call = CALL.matcher(lines[n]);
            Due.holds("a call with a comment: " + lines[n], call.matches());
            called.add(call.group(1));
            answersAsTold(judge, call);
        }
        Set<String> all = new TreeSet<>();
        for (Method m : LaneJudge.class.getDeclaredMethods()) {
            if (Modifier.isPublic(m.getModifiers())) all.add(m.getName());
        }
        Due.holds("the example calls " + all + ", called are " + called, called.equals(all));
    }

    private static void answersAsTold(LaneJudge judge, Matcher call) throws ReflectiveOperationException {
        Object[] arguments = Arrays.stream(call.group(2).split(", *")).filter(word -> !word.isEmpty())
            .map(ReadmeTest::number).toArray();
        Class<?>[] types = new Class<?>[arguments.length];
        Arrays.fill(types, int.class);
        Method method = LaneJudge.class.getMethod(call.group(1), types);
        Object answer = method.invoke(judge, arguments);
        boolean told = call.group(3) != null;
        Due.holds("an answer is told where there is one: " + call.group(), told == (answer != null));
        if (told && answer != null) {
            Due.is(call.group(), (Integer) answer, Integer.parseInt(call.group(3)));
        }
    }

    /** A number as it stands, or one of the class's constants. */
    private static Integer number(String word) {
        try {
            return word.startsWith("LaneJudge.") ? (Integer) LaneJudge.class.getField(word.substring(10)).get(null) : Integer.valueOf(word);
        } catch (ReflectiveOperationException none) {
            throw new IllegalArgumentException(word, none);
        }
    }
}
