import java.lang.reflect.Constructor;
import java.lang.reflect.Field;
import java.lang.reflect.Member;
import java.lang.reflect.Method;
import java.lang.reflect.Modifier;
import java.nio.file.Files;
import java.nio.file.Path;
import java.util.Arrays;
import java.util.Set;
import java.util.TreeSet;
import java.util.regex.Matcher;
import java.util.regex.Pattern;

/** The face of the class, and what of ../shared/LANGUAGE.md can be seen by looking for it. */
public final class LanguageTest {
    private static final String FACE = """
        post(int, boolean, int, int, boolean) joint(int, int, int) about(int, int) cord(int, boolean) cup(int)
        clerk(int) order(int) drawer(int, int) fetch(int, int, int) send(int, int, int, int) resend(int) porter(int)
        cupAt(int, int) coins(int, int) tick(int) row(int) clerkAt(int, int) till(int) could(int) gives(int, int)
        on(int, boolean) waits(int, int) worst() best(int) worstBy(int) rush(int, int, int) load(int, int) lines(int)
        wanted() vital(int) loss(int, int) bells() bell(int, boolean) mayBe(int) total(int)""";

    public static void main(String[] args) throws Exception {
        constants();
        face();
        nested();
        source();
        Due.end();
    }

    private static void constants() {
        Due.is("UNKNOWN", FlyingChange.UNKNOWN, -1);
        Due.is("OUTSIDE", FlyingChange.OUTSIDE, -2);
        Due.is("STATE", FlyingChange.STATE, -3);
        Due.is("FULL", FlyingChange.FULL, -4);
        Due.is("NONE", FlyingChange.NONE, -9);
    }

    private static String told(Method m) {
        String types = Arrays.toString(Arrays.stream(m.getParameterTypes()).map(Class::getName).toArray());
        return m.getName() + "(" + types.substring(1, types.length() - 1) + ")";
    }

    private static void face() {
        Set<String> found = new TreeSet<>();
        Set<String> names = new TreeSet<>();
        for (Method m : FlyingChange.class.getDeclaredMethods()) {
            if (Modifier.isPublic(m.getModifiers())) {
                found.add(told(m));
                names.add(m.getName());
                Due.holds(m.getName() + " answers an int", m.getReturnType() == int.class);
                Due.holds(m.getName() + " is of an object", !Modifier.isStatic(m.getModifiers()));
            }
        }
        Set<String> due = new TreeSet<>();
        Matcher call = Pattern.compile("\\w+\\([^)]*\\)").matcher(FACE);
        while (call.find()) {
            due.add(call.group());
        }
        Due.holds("the face is " + due + " and not " + found, found.equals(due));
        for (Method m : FlyingChange.class.getDeclaredMethods()) {
            boolean hidden = Modifier.isPrivate(m.getModifiers()) || m.isSynthetic();
            Due.holds(m.getName() + " is of the face or private", hidden || due.contains(told(m)));
            Due.holds(m.getName() + " bears no name of the face", !Modifier.isPrivate(m.getModifiers()) || !names.contains(m.getName()));
        }
        for (Field f : FlyingChange.class.getDeclaredFields()) {
            boolean constant = Set.of("UNKNOWN", "OUTSIDE", "STATE", "FULL", "NONE").contains(f.getName());
            Due.holds(f.getName() + " is of the face or private", constant == Modifier.isPublic(f.getModifiers())
                && (constant || Modifier.isPrivate(f.getModifiers())));
        }
        Constructor<?>[] made = FlyingChange.class.getDeclaredConstructors();
        Due.holds("one public constructor", made.length == 1 && Modifier.isPublic(made[0].getModifiers())
            && made[0].getParameterCount() == 0);
        Due.holds("the class is public and final", FlyingChange.class.getModifiers() == (Modifier.PUBLIC | Modifier.FINAL));
    }

    private static boolean isFixed(Member f) {
        return !Modifier.isStatic(f.getModifiers()) || Modifier.isFinal(f.getModifiers());
    }

    private static void nested() {
        Class<?>[] inside = FlyingChange.class.getDeclaredClasses();
        Due.holds("at most twelve classes", inside.length + 1 <= 12);
        for (Class<?> c : inside) {
            Due.holds(c.getName() + " is static", Modifier.isStatic(c.getModifiers()));
            Due.holds(c.getName() + " is not of the face", !Modifier.isPublic(c.getModifiers()));
            for (Field f : c.getDeclaredFields()) {
                Due.holds(c.getName() + "." + f.getName() + " is no other static state", isFixed(f));
            }
        }
        for (Field f : FlyingChange.class.getDeclaredFields()) {
            Due.holds(f.getName() + " is no other static state", isFixed(f));
        }
    }

    private static void source() throws Exception {
        String text = Files.readString(Path.of("src/main/java/FlyingChange.java"));
        String code = text.replaceAll("(?s)/\\*.*?\\*/", "").replaceAll("//[^\n]*", "");
        String[] ruledOut = {"\\bthrows?\\b", "\\btry\\b", "\\bcatch\\b", "\\bsynchronized\\b", "\\bassert\\b", "\\bpackage\\b",
            "\\bimport (?!java\\.util\\.)", "\n(?! *(case|default)\\b)[^\n]*->", "::", "Exact\\b", "\\bprotected\\b",
            "\\bstatic \\{", "\\bhashCode\\b", "\\btoString\\b", "while \\(true\\)", "MAX_VALUE", "MIN_VALUE"};
        for (String r : ruledOut) {
            Due.holds("the code is without " + r, !Pattern.compile(r).matcher(code).find());
        }
        Due.holds("signs 1 to 127", text.chars().allMatch(c -> c < 128));
        String[] lines = code.split("\n");
        for (int i = 0; i < lines.length; i++) {
            if (lines[i].matches("( {4}| {8})[\\w.\\[\\] ]+\\(.*\\) \\{") && !lines[i].contains(" if ")) {
                isShort(lines, i);
            }
        }
    }

    private static void isShort(String[] lines, int from) {
        String end = lines[from].replaceAll("\\S.*", "") + "}";
        int to = from;
        while (to < lines.length && !lines[to].equals(end)) {
            to++;
        }
        Due.holds("some sixty lines: " + lines[from], to - from <= 60);
        Due.holds("at most seven parameters: " + lines[from], lines[from].split(",").length <= 7);
    }
}
