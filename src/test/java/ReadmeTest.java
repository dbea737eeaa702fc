import java.io.IOException;
import java.lang.reflect.Method;
import java.lang.reflect.Modifier;
import java.nio.file.Files;
import java.nio.file.Path;
import java.util.ArrayList;
import java.util.Comparator;
import java.util.List;
import java.util.regex.Matcher;
import java.util.regex.Pattern;
import java.util.stream.Stream;

/** README.md: its example and its commands are done as they are written, in a folder of their own. */
public final class ReadmeTest {
    private static final Path PAGE = Path.of("README.md");

    public static void main(String[] args) throws Exception {
        String page = Files.readString(PAGE);
        Path folder = Files.createTempDirectory("readme");
        try {
            copy(Path.of("src"), folder.resolve("src"));
            Files.copy(PAGE, folder.resolve("README.md"));
            exampleIsAsItIsWritten(page, folder);
            testsAreRunAsItIsWritten(page, folder);
        } finally {
            remove(folder);
        }
        callsAreNamed(page);
        testsAreNamed(page);
        Due.end();
    }

    private static void copy(Path from, Path to) throws IOException {
        for (Path p : all(from)) {
            Files.copy(p, to.resolve(from.relativize(p).toString()));
        }
    }

    private static void remove(Path folder) throws IOException {
        List<Path> inIt = all(folder);
        inIt.sort(Comparator.reverseOrder());
        for (Path p : inIt) {
            Files.delete(p);
        }
    }

    private static List<Path> all(Path folder) throws IOException {
        try (Stream<Path> found = Files.walk(folder)) {
            return new ArrayList<>(found.toList());
        }
    }

    /** What stands between the fences of a sort, in the page's order. */
    private static List<String> blocks(String page, String sort) {
        List<String> found = new ArrayList<>();
        Matcher m = Pattern.compile("(?ms)^```" + sort + "\n(.*?)^```$").matcher(page);
        while (m.find()) {
            found.add(m.group(1));
        }
        return found;
    }

    private static String printed(Path folder, String commands) throws Exception {
        ProcessBuilder shell = new ProcessBuilder("sh", "-e", "-c", commands).directory(folder.toFile());
        Process p = shell.redirectError(ProcessBuilder.Redirect.INHERIT).start();
        String text = new String(p.getInputStream().readAllBytes());
        int code = p.waitFor();
        if (code != 0) {
            System.out.println(text);
        }
        Due.is("these commands end with\n" + commands, code, 0);
        return text;
    }

    private static void exampleIsAsItIsWritten(String page, Path folder) throws Exception {
        Due.is("one example", blocks(page, "java").size(), 1);
        Due.is("one text that it prints", blocks(page, "text").size(), 1);
        Files.writeString(folder.resolve("Example.java"), blocks(page, "java").get(0));
        String got = printed(folder, blocks(page, "sh").get(0)).replace("\r\n", "\n");
        String due = blocks(page, "text").get(0);
        Due.holds("the example prints\n" + got + "and the page says\n" + due, got.equals(due));
    }

    private static void testsAreRunAsItIsWritten(String page, Path folder) throws Exception {
        List<String> commands = blocks(page, "sh");
        Due.is("commands: of the example, of all tests, of one test", commands.size(), 3);
        Due.holds(".ci/run runs all tests", commands.get(1).equals(".ci/run\n") && Files.exists(Path.of(".ci/run")));
        String text = printed(folder, commands.get(2));
        Due.holds("both tests pass: " + text, text.matches("(?s)\\d+ answers are as due\\R300 answers are as due\\R"));
    }

    private static void callsAreNamed(String page) {
        for (Method m : FlyingChange.class.getDeclaredMethods()) {
            if (Modifier.isPublic(m.getModifiers())) {
                Matcher row = Pattern.compile("(?m)^\\| `" + m.getName() + "\\((.*?)\\)` \\| .+ \\|$").matcher(page);
                boolean named = row.find();
                Due.holds("the page names " + m.getName(), named);
                int parameters = !named || row.group(1).isEmpty() ? 0 : row.group(1).split(", ").length;
                Due.is("what " + m.getName() + " is told, by the page", parameters, m.getParameterCount());
            }
        }
    }

    private static void testsAreNamed(String page) throws IOException {
        for (Path p : all(Path.of("src/test/java"))) {
            String name = p.getFileName().toString();
            if (name.endsWith("Test.java")) {
                Due.holds("the page names " + name, page.contains("| `" + name.replace(".java", "") + "` |"));
            }
        }
    }
}
