import java.lang.reflect.Constructor;
import java.lang.reflect.Field;
import java.lang.reflect.Method;
import java.lang.reflect.Modifier;
import java.util.Set;
import java.util.TreeSet;

/** The public face is the document's, and nothing else can be seen from outside. */
public final class FaceTest {
    private static final Set<String> FACE = Set.of(
        "public int scalar(int,long)", "public int point(int,long)", "public int start()",
        "public int step(int)", "public int finish()", "public int again()", "public int reset()",
        "public int phase()", "public long out(int)", "public long part(int,int)",
        "public long told(int,int)", "public int count(int)", "public int check()");

    private static final Due DUE = new Due("FaceTest");

    public static void main(String[] args) {
        methods();
        fields();
        constructors();
        innerClasses();
        DUE.end();
    }

    private static void methods() {
        Set<String> seen = new TreeSet<>();
        Set<String> names = new TreeSet<>();
        for (Method m : LadderDesk.class.getDeclaredMethods()) {
            if (!Modifier.isPrivate(m.getModifiers())) {
                seen.add(m.toGenericString().replace("LadderDesk.", "").replace(", ", ","));
                names.add(m.getName());
            }
        }
        DUE.truth("the methods are " + seen, seen.equals(FACE));
        for (Method m : LadderDesk.class.getDeclaredMethods()) {
            DUE.truth("private " + m.getName() + " bears a public name",
                !Modifier.isPrivate(m.getModifiers()) || !names.contains(m.getName()));
        }
        DUE.truth("the class is public and final",
            (LadderDesk.class.getModifiers() & (Modifier.PUBLIC | Modifier.FINAL)) == (Modifier.PUBLIC | Modifier.FINAL));
    }

    private static void fields() {
        for (Field f : LadderDesk.class.getDeclaredFields()) {
            boolean isConstant = f.getName().equals("NONE");
            DUE.truth("field " + f.getName(), isConstant
                ? f.toString().equals("public static final int LadderDesk.NONE")
                : Modifier.isPrivate(f.getModifiers()));
            DUE.truth("static field " + f.getName() + " is final",
                !Modifier.isStatic(f.getModifiers()) || Modifier.isFinal(f.getModifiers()));
        }
        DUE.same("NONE", LadderDesk.NONE, -1);
    }

    private static void constructors() {
        Constructor<?>[] all = LadderDesk.class.getDeclaredConstructors();
        DUE.truth("one constructor", all.length == 1 && all[0].toString().equals("public LadderDesk()"));
    }

    private static void innerClasses() {
        for (Class<?> c : LadderDesk.class.getDeclaredClasses()) {
            int m = c.getModifiers();
            DUE.truth("class " + c + " is static and not public or protected",
                Modifier.isStatic(m) && !Modifier.isPublic(m) && !Modifier.isProtected(m));
        }
    }
}
