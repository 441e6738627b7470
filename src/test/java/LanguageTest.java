import java.io.IOException;
import java.lang.reflect.Field;
import java.lang.reflect.Method;
import java.lang.reflect.Modifier;
import java.nio.file.Files;
import java.nio.file.Path;
import java.util.ArrayList;
import java.util.List;
import java.util.Set;
import java.util.regex.Matcher;
import java.util.regex.Pattern;

/** The rules of LANGUAGE.md that a look at the source or at the compiled classes can tell. */
public final class LanguageTest {
    private static final Path SOURCE = Path.of(System.getProperty("root", "."), "src/main/java/LadderDesk.java");
    private static final Set<String> IMPORTS = Set.of(
        "java.util.Arrays", "java.util.ArrayList", "java.util.List", "java.util.Iterator");
    private static final Set<String> LIBRARY = Set.of(
        "System.arraycopy", "Arrays.copyOf", "Arrays.copyOfRange", "Arrays.fill");
    private static final Set<Class<?>> CONSTANTS = Set.of(
        int.class, long.class, boolean.class, char.class, String.class,
        int[].class, long[].class, char[].class, byte[].class);

    private static final Due DUE = new Due("LanguageTest");

    public static void main(String[] args) throws IOException {
        String source = Files.readString(SOURCE);
        String code = withoutComments(source);
        oneFileWithoutPackage(code);
        importsAndLibrary(code);
        words(code);
        methodsAreShort(source);
        List<Class<?>> classes = classes();
        staticFieldsAreConstants(classes);
        classesAreSmall(classes);
        DUE.end();
    }

    private static void oneFileWithoutPackage(String code) throws IOException {
        DUE.about("The program is one file, without a package line");
        try (var files = Files.walk(SOURCE.getParent())) {
            DUE.same("files", files.filter(Files::isRegularFile).count(), 1);
        }
        DUE.same("package lines", count("(?m)^\\s*package\\b", code), 0);
        DUE.truth("texts hold characters 0 to 255 alone", code.chars().allMatch(c -> c < 256));
    }

    private static void importsAndLibrary(String code) {
        DUE.about("4. The library: only what stands here.");
        Matcher imports = Pattern.compile("(?m)^import\\s+([^;]+);").matcher(code);
        while (imports.find()) {
            DUE.truth("import " + imports.group(1), IMPORTS.contains(imports.group(1)));
        }
        Matcher calls = Pattern.compile("\\b(?:System|Arrays)\\.\\w+").matcher(code.replaceAll("(?m)^import.*$", ""));
        while (calls.find()) {
            DUE.truth(calls.group(), LIBRARY.contains(calls.group()));
        }
        DUE.same("names from java or javax written out", count("\\bjavax?\\.(?!util\\.\\w+;)", code), 0);
        DUE.same("functions that end in Exact", count("\\b\\w+Exact\\s*\\(", code), 0);
    }

    private static void words(String code) {
        DUE.about("2, 6 and 13: what is not in this Java");
        for (String word : new String[] {"throw", "throws", "try", "catch", "synchronized", "assert", "volatile",
                "native", "var", "yield", "Object", "Thread", "Random", "hashCode", "toString", "getClass"}) {
            DUE.same("'" + word + "'", count("\\b" + word + "\\b", code), 0);
        }
        DUE.same("lambdas", count("->", code), 0);
        DUE.same("method references", count("::", code), 0);
        DUE.same("static initialiser blocks", count("\\bstatic\\s*\\{", code), 0);
        DUE.same("anonymous classes", count("\\bnew\\s+\\w+\\s*\\([^)]*\\)\\s*\\{", code), 0);
        DUE.same("arrays of three dimensions", count("\\[\\s*\\]\\s*\\[\\s*\\]\\s*\\[", code), 0);
    }

    /** A method of a class inside begins eight columns in, one of the public class four. */
    private static void methodsAreShort(String source) {
        DUE.about("11. Methods stay short (some sixty lines)");
        String[] lines = source.split("\n");
        for (int i = 0; i < lines.length; i++) {
            Matcher head = Pattern.compile("^( {4}| {8})[a-z][^=;]*\\(.*\\) \\{$").matcher(lines[i]);
            if (head.matches()) {
                int end = i;
                while (!lines[end].equals(head.group(1) + "}")) {
                    end++;
                }
                DUE.truth(lines[i].trim() + " has " + (end - i + 1) + " lines", end - i + 1 <= 60);
            }
        }
    }

    private static void staticFieldsAreConstants(List<Class<?>> classes) {
        DUE.about("5. Static fields are final: constants; no other static state");
        for (Class<?> one : classes) {
            for (Field field : one.getDeclaredFields()) {
                if (Modifier.isStatic(field.getModifiers())) {
                    DUE.truth(field + " is final", Modifier.isFinal(field.getModifiers()));
                    DUE.truth(field + " is of a constant's type", CONSTANTS.contains(field.getType()));
                }
            }
        }
    }

    private static void classesAreSmall(List<Class<?>> classes) {
        DUE.about("2 and 11: classes inside are static, few and small; at most seven parameters");
        DUE.truth(classes.size() + " classes", classes.size() <= 12);
        for (Class<?> one : classes) {
            int fields = 0;
            for (Field field : one.getDeclaredFields()) {
                fields += Modifier.isStatic(field.getModifiers()) ? 0 : 1;
            }
            DUE.truth(one + " has " + fields + " fields", fields <= 20);
            DUE.truth(one + " is static", one == LadderDesk.class || Modifier.isStatic(one.getModifiers()));
            for (Method method : one.getDeclaredMethods()) {
                DUE.truth(method + " has at most seven parameters", method.getParameterCount() <= 7);
                DUE.truth(method + " is written in the source", !method.isSynthetic());
            }
        }
    }

    private static List<Class<?>> classes() {
        List<Class<?>> all = new ArrayList<>();
        all.add(LadderDesk.class);
        for (int i = 0; i < all.size(); i++) {
            all.addAll(List.of(all.get(i).getDeclaredClasses()));
        }
        return all;
    }

    private static String withoutComments(String source) {
        return source.replaceAll("(?s)/\\*.*?\\*/", " ").replaceAll("//[^\n]*", " ");
    }

    private static long count(String pattern, String text) {
        return Pattern.compile(pattern).matcher(text).results().count();
    }
}
