import java.lang.reflect.Method;
import java.lang.reflect.Modifier;
import java.nio.file.Files;
import java.nio.file.Path;
import java.util.Map;
import java.util.HashMap;
import java.util.regex.Matcher;
import java.util.regex.Pattern;

/** README.md tells every call, and its example answers what stands beside it. */
public final class ReadmeTests extends Bench {
    private static final Pattern EXAMPLE = Pattern.compile("```java\n(.*?)```", Pattern.DOTALL);
    private static final Pattern MADE = Pattern.compile("IdealWorks works = new IdealWorks\\(\\);");
    private static final Pattern LINE =
        Pattern.compile("(?:(int|boolean) \\w+ = )?works\\.(\\w+)\\(([^)]*)\\);\\s*(?://\\s*(.*))?");
    private static final Pattern TOLD = Pattern.compile("(-?\\d+|true|false): .*");

    private static Map<String, Method> face() {
        Map<String, Method> face = new HashMap<>();
        for (Method m : IdealWorks.class.getDeclaredMethods()) {
            if (Modifier.isPublic(m.getModifiers())) {
                face.put(m.getName(), m);
            }
        }
        return face;
    }

    private static void checkNames(String readme, Map<String, Method> face) {
        for (String name : face.keySet()) {
            check(readme.contains("`" + name + "`"), "README.md does not tell " + name);
        }
        for (Class<?> c : IdealWorks.class.getDeclaredClasses()) {
            check(readme.contains("`" + c.getSimpleName() + "`"), "README.md does not tell " + c.getSimpleName());
        }
        String[] tests = Path.of("src/test/java").toFile().list();
        for (String test : tests == null ? new String[0] : tests) {
            check(readme.contains("`" + test.replace(".java", "") + "`"), "README.md does not tell " + test);
        }
    }

    private static Object[] arguments(String told) {
        String[] parts = told.isEmpty() ? new String[0] : told.split(", ");
        Object[] arguments = new Object[parts.length];
        for (int k = 0; k < parts.length; k++) {
            arguments[k] = Long.decode(parts[k]).intValue();
        }
        return arguments;
    }

    private static void runLine(IdealWorks works, String line, Map<String, Method> face) throws Exception {
        Matcher m = LINE.matcher(line);
        Method call = m.matches() ? face.get(m.group(2)) : null;
        check(call != null, "no call of the class: " + line);
        if (call == null) {
            return;
        }
        String answer = String.valueOf(call.invoke(works, arguments(m.group(3))));
        if (m.group(1) != null) {
            due("the type of " + line, call.getReturnType().getSimpleName(), m.group(1));
            Matcher told = TOLD.matcher(String.valueOf(m.group(4)));
            check(told.matches(), "no answer beside " + line);
            due(line, answer, told.matches() ? told.group(1) : "");
        }
    }

    /** What the example's remarks tell beside the answers. */
    private static void checkRemarks(IdealWorks works) {
        due("the output of the example", output(works), "x+2*y");
        due("polynomial 0 of the example", shown(works, 0), "x^2+3");
        due("zero 0 of the example", point(works, 0, 2), "2,6");
        due("zero 1 of the example", point(works, 1, 2), "5,1");
    }

    public static void main(String[] args) throws Exception {
        String readme = Files.readString(Path.of("README.md"));
        Map<String, Method> face = face();
        checkNames(readme, face);
        Matcher example = EXAMPLE.matcher(readme);
        check(example.find(), "README.md has no example");
        String[] lines = example.group(1).split("\n");
        check(MADE.matcher(lines[0]).matches(), "the example makes no object first");
        IdealWorks works = new IdealWorks();
        for (int k = 1; k < lines.length; k++) {
            runLine(works, lines[k], face);
        }
        checkRemarks(works);
        finish("README.md is as due");
    }
}
