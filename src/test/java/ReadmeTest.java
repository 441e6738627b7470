import java.io.IOException;
import java.lang.reflect.Method;
import java.lang.reflect.Modifier;
import java.nio.file.Files;
import java.nio.file.Path;
import java.util.ArrayList;
import java.util.List;
import java.util.regex.Matcher;
import java.util.regex.Pattern;

/** README.md tells every call of the face, and the calls of its example answer what it says there. */
public final class ReadmeTest {
    private static final Path README = Path.of(System.getProperty("root", "."), "README.md");
    private static final Pattern CALL = Pattern.compile("\\bdesk\\.(\\w+)\\(([^)]*)\\);\\s*// (-?\\d+)\\b");

    private static final Due DUE = new Due("ReadmeTest");

    public static void main(String[] args) throws IOException, ReflectiveOperationException {
        String readme = Files.readString(README);
        everyCallIsNamed(readme);
        exampleIsTrue(readme);
        everyTestIsNamed(readme);
        DUE.end();
    }

    private static void everyCallIsNamed(String readme) {
        DUE.about("README.md says how to use the class");
        for (Method method : LadderDesk.class.getDeclaredMethods()) {
            if (Modifier.isPublic(method.getModifiers())) {
                DUE.truth(method.getName() + " is named", readme.contains("`" + method.getName() + "("));
            }
        }
    }

    private static void exampleIsTrue(String readme) throws ReflectiveOperationException {
        DUE.about("README.md says how to use the class: its example");
        LadderDesk desk = new LadderDesk();
        Matcher calls = CALL.matcher(readme);
        while (calls.find()) {
            long got = answer(desk, calls.group(1), calls.group(2));
            DUE.same(calls.group(1) + "(" + calls.group(2) + ")", got, Long.parseLong(calls.group(3)));
        }
        DUE.same("calls without an answer", Pattern.compile("\\bdesk\\.\\w+\\(").matcher(readme).results().count(),
            CALL.matcher(readme).results().count());
    }

    private static void everyTestIsNamed(String readme) throws IOException {
        DUE.about("README.md says how to run its tests");
        DUE.truth(".ci/run is named", readme.contains(".ci/run"));
        try (var files = Files.list(README.resolveSibling("src/test/java"))) {
            for (Path file : files.toList()) {
                String name = file.getFileName().toString();
                if (name.endsWith("Test.java")) {
                    DUE.truth(name + " is named", readme.contains("`" + name.replace(".java", "") + "`"));
                }
            }
        }
    }

    private static long answer(LadderDesk desk, String name, String told) throws ReflectiveOperationException {
        String[] words = told.isEmpty() ? new String[0] : told.split(",\\s*");
        for (Method method : LadderDesk.class.getDeclaredMethods()) {
            if (method.getName().equals(name)) {
                return ((Number) method.invoke(desk, arguments(method.getParameterTypes(), words))).longValue();
            }
        }
        throw new IllegalStateException("README.md names no such call: " + name);
    }

    private static Object[] arguments(Class<?>[] types, String[] words) {
        List<Object> all = new ArrayList<>();
        for (int i = 0; i < words.length; i++) {
            long v = Long.parseLong(words[i].replace("L", ""));
            if (types[i] == int.class) {
                all.add((int) v);
            } else {
                all.add(v);
            }
        }
        return all.toArray();
    }
}
