import java.lang.reflect.Constructor;
import java.lang.reflect.Field;
import java.lang.reflect.Method;
import java.lang.reflect.Modifier;
import java.nio.file.Files;
import java.nio.file.Path;
import java.util.Arrays;
import java.util.Set;
import java.util.TreeSet;
import java.util.regex.Matcher;
import java.util.regex.Pattern;
import javax.tools.ToolProvider;

/** The face of the class, and the rules of ../shared/LANGUAGE.md that can be looked for. */
public final class LanguageTest {
    private static final Path SOURCE = Path.of("src/main/java/FlyingChange.java");
    private static final Set<String> CONSTANTS = Set.of("UNKNOWN", "OUTSIDE", "STATE", "FULL", "NONE");
    private static final String FACE = """
        post(int, boolean, int, int, boolean) joint(int, int, int) about(int, int) cord(int, boolean) cup(int)
        clerk(int) order(int) drawer(int, int) fetch(int, int, int) send(int, int, int, int) resend(int) porter(int)
        cupAt(int, int) coins(int, int) tick(int) row(int) clerkAt(int, int) till(int) could(int) gives(int, int)
        on(int, boolean) waits(int, int) worst() best(int) worstBy(int) rush(int, int, int) load(int, int) lines(int)
        wanted() vital(int) loss(int, int) bells() bell(int, boolean) mayBe(int) total(int)""";

    public static void main(String[] args) throws Exception {
        constants();
        calls();
        members();
        signs();
        rules();
        Due.end();
    }

    /** A java that comes without a compiler can't read the source; javac has looked at it all the same. */
    private static void rules() throws Exception {
        if (ToolProvider.getSystemJavaCompiler() == null) {
            System.out.println("there is no compiler in this java: the rules of LANGUAGE.md were not looked for");
            return;
        }
        new Rules(SOURCE).areKept();
    }

    private static void constants() {
        Due.is("UNKNOWN", FlyingChange.UNKNOWN, -1);
        Due.is("OUTSIDE", FlyingChange.OUTSIDE, -2);
        Due.is("STATE", FlyingChange.STATE, -3);
        Due.is("FULL", FlyingChange.FULL, -4);
        Due.is("NONE", FlyingChange.NONE, -9);
    }

    private static String told(Method m) {
        String types = Arrays.toString(Arrays.stream(m.getParameterTypes()).map(Class::getName).toArray());
        return m.getName() + "(" + types.substring(1, types.length() - 1) + ")";
    }

    private static void calls() {
        Set<String> due = new TreeSet<>();
        Set<String> names = new TreeSet<>();
        Matcher call = Pattern.compile("(\\w+)\\([^)]*\\)").matcher(FACE);
        while (call.find()) {
            due.add(call.group());
            names.add(call.group(1));
        }
        Set<String> found = new TreeSet<>();
        for (Method m : FlyingChange.class.getDeclaredMethods()) {
            if (Modifier.isPublic(m.getModifiers())) {
                found.add(told(m));
                Due.holds(m.getName() + " answers an int", m.getReturnType() == int.class);
                Due.holds(m.getName() + " is of an object", !Modifier.isStatic(m.getModifiers()));
            } else if (!m.isSynthetic()) {
                Due.holds(m.getName() + " is of the face or private", Modifier.isPrivate(m.getModifiers()));
                Due.holds(m.getName() + " bears no name of the face", !names.contains(m.getName()));
            }
        }
        Due.holds("the face is " + due + " and not " + found, found.equals(due));
    }

    private static void members() {
        for (Field f : FlyingChange.class.getDeclaredFields()) {
            boolean constant = CONSTANTS.contains(f.getName());
            Due.holds(f.getName() + " is of the face or private",
                constant ? Modifier.isPublic(f.getModifiers()) : Modifier.isPrivate(f.getModifiers()) || f.isSynthetic());
        }
        Constructor<?>[] made = FlyingChange.class.getDeclaredConstructors();
        Due.holds("one public constructor", made.length == 1 && Modifier.isPublic(made[0].getModifiers())
            && made[0].getParameterCount() == 0);
        Due.holds("the class is public and final", FlyingChange.class.getModifiers() == (Modifier.PUBLIC | Modifier.FINAL));
        Due.holds("it extends nothing", FlyingChange.class.getSuperclass() == Object.class);
        Due.holds("it has no package", FlyingChange.class.getPackageName().isEmpty());
        for (Class<?> c : FlyingChange.class.getDeclaredClasses()) {
            Due.holds(c.getName() + " is static", Modifier.isStatic(c.getModifiers()));
            Due.holds(c.getName() + " is not of the face", (c.getModifiers() & (Modifier.PUBLIC | Modifier.PROTECTED)) == 0);
        }
    }

    private static void signs() throws Exception {
        Due.holds("signs 1 to 127", Files.readString(SOURCE).chars().allMatch(c -> c >= 1 && c <= 127));
    }
}
