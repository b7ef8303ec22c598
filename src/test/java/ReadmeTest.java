import java.io.IOException;
import java.lang.reflect.InvocationTargetException;
import java.lang.reflect.Method;
import java.nio.file.Files;
import java.nio.file.Path;
import java.util.Comparator;
import java.util.List;
import java.util.TreeSet;
import java.util.regex.Matcher;
import java.util.regex.Pattern;
import java.util.stream.Stream;

/** README.md: its example answers what it says, its lists are whole, and its commands work. */
public final class ReadmeTest {
    private static final Pattern CALL = Pattern.compile("x\\.(\\w+)\\(([^)]*)\\); +// (-?\\d+)");
    private static final Pattern COMMANDS = Pattern.compile("(?s)```sh\n(.*?)```");

    public static void main(String[] args) throws Exception {
        String page = Files.readString(Path.of("README.md"));
        example(page.substring(page.indexOf("```java"), page.indexOf("```\n", page.indexOf("```java"))));
        callsAreNamed(page);
        testsAreNamed(page);
        commands(page);
        Due.end();
    }

    private static void example(String lines) throws ReflectiveOperationException {
        AnchorString x = new AnchorString();
        Matcher m = CALL.matcher(lines);
        int asked = 0;
        while (m.find()) {
            Due.due("README x." + m.group(1) + "(" + m.group(2) + ")", ask(x, m.group(1), m.group(2)), Long.parseLong(m.group(3)));
            asked++;
        }
        Due.due("README, each line of the example is asked", asked, lines.split("x\\.").length - 1);
    }

    private static long ask(AnchorString x, String name, String told) throws ReflectiveOperationException {
        String[] words = told.isEmpty() ? new String[0] : told.split(", ");
        for (Method m : AnchorString.class.getMethods()) {
            if (m.getName().equals(name) && m.getParameterCount() == words.length) {
                Object[] a = new Object[words.length];
                for (int i = 0; i < a.length; i++) {
                    long v = Long.decode(words[i]);
                    a[i] = m.getParameterTypes()[i] == long.class ? (Object) v : (Object) (int) v;
                }
                return answer(m, x, a);
            }
        }
        throw new NoSuchMethodException(name);
    }

    private static long answer(Method m, AnchorString x, Object[] a) throws IllegalAccessException {
        try {
            return ((Number) m.invoke(x, a)).longValue();
        } catch (InvocationTargetException e) {
            throw new IllegalStateException(m.getName(), e);
        }
    }

    private static void callsAreNamed(String page) {
        for (Method m : AnchorString.class.getDeclaredMethods()) {
            if (java.lang.reflect.Modifier.isPublic(m.getModifiers())) {
                Due.due("README names " + m.getName(), page.contains("`" + m.getName() + "` (") ? 1 : 0, 1);
            }
        }
    }

    private static void testsAreNamed(String page) throws IOException {
        TreeSet<String> there = new TreeSet<>();
        try (Stream<Path> files = Files.list(Path.of("src/test/java"))) {
            files.map(p -> p.getFileName().toString()).filter(n -> n.endsWith("Test.java"))
                    .forEach(n -> there.add(n.substring(0, n.length() - 5)));
        }
        TreeSet<String> named = new TreeSet<>();
        Matcher m = Pattern.compile("\\b\\w+Test\\b").matcher(page.substring(page.indexOf("| test |")));
        while (m.find()) {
            named.add(m.group());
        }
        Due.same("README names the tests", named.toString(), there.toString());
    }

    /** All but .ci/run, by which this test is run itself; the classes go elsewhere, so that nothing is left behind. */
    private static void commands(String page) throws IOException, InterruptedException {
        Due.due(".ci/run may be run", Files.isExecutable(Path.of(".ci/run")) ? 1 : 0, 1);
        Matcher m = COMMANDS.matcher(page);
        int blocks = 0;
        while (m.find()) {
            blocks++;
            if (!m.group(1).equals(".ci/run\n")) {
                Path out = Files.createTempDirectory("readme");
                Due.due(m.group(1), run(m.group(1).replace(" out ", " '" + out + "' ")), 0);
                delete(out);
            }
        }
        Due.due("README has commands", blocks, 4);
    }

    private static int run(String commands) throws IOException, InterruptedException {
        Process p = new ProcessBuilder(List.of("sh", "-e", "-c", commands)).redirectErrorStream(true).start();
        String said = new String(p.getInputStream().readAllBytes(), java.nio.charset.StandardCharsets.UTF_8);
        int code = p.waitFor();
        if (code != 0) {
            System.out.println(said);
        }
        return code;
    }

    private static void delete(Path folder) throws IOException {
        List<Path> all;
        try (Stream<Path> walk = Files.walk(folder)) {
            all = walk.sorted(Comparator.reverseOrder()).toList();
        }
        for (Path p : all) {
            Files.delete(p);
        }
    }
}
