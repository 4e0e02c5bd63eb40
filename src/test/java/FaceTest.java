import java.io.IOException;
import java.lang.reflect.Constructor;
import java.lang.reflect.Field;
import java.lang.reflect.Method;
import java.lang.reflect.Modifier;
import java.nio.file.Files;
import java.nio.file.Path;
import java.util.Arrays;
import java.util.HashSet;
import java.util.Map;
import java.util.Set;
import java.util.TreeMap;
import java.util.TreeSet;
import java.util.regex.Matcher;
import java.util.regex.Pattern;

/** The public face of the document, and those rules of LANGUAGE.md that can be seen from outside or by words. */
public final class FaceTest {
    private static final Path SOURCE = Path.of("src/main/java/LaneJudge.java");
    private static final String[] FACE = {
        "HALTED", "TIRED", "TRAPPED", "FAILED", "new(int)",
        "int emit(int,int,int)", "int patch(int,int,int,int)", "void clear()", "int length()",
        "int fate(int)", "int steps(int)", "int endAt(int)", "int register(int,int)", "int count(int)",
        "int first(int)", "int visits(int)", "int always(int)", "int depends(int,int)", "void keep()",
        "int agreeing()", "int difference()",
    };
    private static final String[] BANNED = {
        "import", "package", "float", "double", "String", "Math", "Integer", "System", "Arrays", "Object",
        "null", "throw", "throws", "try", "catch", "finally", "synchronized", "assert", "instanceof", "enum",
        "interface", "record", "var", "protected", "extends", "implements", "native", "volatile", "yield",
    };

    private static final Pattern METHOD =
        Pattern.compile("(?ms)^    (?:public|private) (?:static )?(?:int |void |boolean )?(\\w+)\\([^)]*\\) \\{$(.*?)^    \\}$");
    private static final Pattern CALL = Pattern.compile("\\b(?!(?:if|for|while|switch|return)\\b)([a-z]\\w*)\\s*\\(");

    public static void main(String[] args) throws IOException {
        membersAreTheFace();
        fieldsKeepToTheRules();
        methodsKeepToTheRules();
        wordsKeepToTheRules();
        callsKeepToTheRules();
        Due.end();
    }

    private static String parameters(Class<?>[] types) {
        return "(" + String.join(",", Arrays.stream(types).map(Class::getName).toList()) + ")";
    }

    private static void membersAreTheFace() {
        Set<String> seen = new TreeSet<>();
        for (Field f : LaneJudge.class.getDeclaredFields()) {
            if (!Modifier.isPrivate(f.getModifiers())) seen.add(f.getName());
        }
        for (Constructor<?> c : LaneJudge.class.getDeclaredConstructors()) {
            if (!Modifier.isPrivate(c.getModifiers())) seen.add("new" + parameters(c.getParameterTypes()));
        }
        for (Method m : LaneJudge.class.getDeclaredMethods()) {
            if (Modifier.isPrivate(m.getModifiers())) continue;
            seen.add(m.getReturnType().getName() + " " + m.getName() + parameters(m.getParameterTypes()));
            Due.holds(m.getName() + " is public and not static", Modifier.isPublic(m.getModifiers()) && !Modifier.isStatic(m.getModifiers()));
        }
        Set<String> due = new TreeSet<>(Arrays.asList(FACE));
        Due.holds("the face is " + due + ", seen is " + seen, seen.equals(due));
        int kind = LaneJudge.class.getModifiers();
        Due.holds("the class is public and final", Modifier.isPublic(kind) && Modifier.isFinal(kind));
        Due.is("classes inside", LaneJudge.class.getDeclaredClasses().length, 0);
    }

    private static void fieldsKeepToTheRules() {
        Set<String> types = Set.of("int", "long", "short", "byte", "char", "boolean", "[I", "[J", "[S", "[B", "[C", "[Z");
        int variables = 0;
        for (Field f : LaneJudge.class.getDeclaredFields()) {
            int kind = f.getModifiers();
            Due.holds(f.getName() + " has a type of rule 2", types.contains(f.getType().getName()));
            if (Modifier.isStatic(kind)) {
                boolean number = f.getType() == int.class || f.getType() == long.class;
                Due.holds(f.getName() + " is a constant", Modifier.isFinal(kind) && number);
            } else {
                variables++;
            }
        }
        Due.holds("at most forty fields", variables <= 40);
    }

    private static void methodsKeepToTheRules() {
        Set<String> open = new HashSet<>();
        for (Method m : LaneJudge.class.getDeclaredMethods()) {
            if (!Modifier.isPrivate(m.getModifiers())) open.add(m.getName());
        }
        for (Method m : LaneJudge.class.getDeclaredMethods()) {
            boolean hidden = Modifier.isPrivate(m.getModifiers());
            Due.holds(m.getName() + " does not share a public name", !hidden || !open.contains(m.getName()));
            Due.holds(m.getName() + " has at most seven parameters", m.getParameterCount() <= 7);
            Due.holds(m.getName() + " answers no array", !m.getReturnType().isArray());
        }
    }

    private static String code() throws IOException {
        return Files.readString(SOURCE).replaceAll("(?s)/\\*.*?\\*/", " ").replaceAll("//[^\\n]*", " ");
    }

    private static void wordsKeepToTheRules() throws IOException {
        String code = code();
        for (String word : BANNED) {
            Due.holds("the source is without " + word, !Pattern.compile("\\b" + word + "\\b").matcher(code).find());
        }
        Due.holds("the source is without lambdas", !code.contains("->"));
        Due.holds("the source is without method references", !code.contains("::"));
        Due.holds("the source is without texts", !code.contains("\""));
        Due.holds("arrays are made in field initialisers alone",
            code.lines().filter(line -> Pattern.compile("\\bnew\\b").matcher(line).find())
                .allMatch(line -> line.matches("    private final \\w+\\[\\] \\w+ = new \\w+\\[[A-Z_0-9]+\\];")));
    }

    /** Rules 8 and 10: no recursion, calls at most six deep, none in another's arguments, short methods. */
    private static void callsKeepToTheRules() throws IOException {
        Matcher method = METHOD.matcher(code());
        Map<String, Set<String>> calls = new TreeMap<>();
        while (method.find()) {
            String name = method.group(1);
            String body = method.group(2);
            Due.holds(name + " is short", body.lines().count() <= 60);
            Set<String> called = new TreeSet<>();
            Matcher call = CALL.matcher(body);
            while (call.find()) {
                called.add(call.group(1));
                Due.holds("no call in the arguments of " + call.group(1) + " in " + name, !CALL.matcher(arguments(body, call.end())).find());
            }
            calls.put(name, called);
        }
        int declared = LaneJudge.class.getDeclaredMethods().length + LaneJudge.class.getDeclaredConstructors().length;
        Due.is("methods and constructors found in the source", calls.size(), declared);
        for (String name : calls.keySet()) {
            Due.holds(name + " calls at most six deep and not itself", depth(name, calls, 0) <= 6);
        }
    }

    /** The text from there to the parenthesis that closes the call. */
    private static String arguments(String body, int from) {
        int open = 1;
        int at = from;
        while (open > 0) {
            open += body.charAt(at) == '(' ? 1 : body.charAt(at) == ')' ? -1 : 0;
            at++;
        }
        return body.substring(from, at);
    }

    /** How deep the calls go that begin with this one; a recursion answers some number over the bound. */
    private static int depth(String name, Map<String, Set<String>> calls, int above) {
        int deepest = 1;
        if (above < 10) {
            for (String called : calls.get(name)) {
                deepest = Math.max(deepest, 1 + depth(called, calls, above + 1));
            }
        }
        return deepest;
    }
}
