import java.lang.reflect.Method;
import java.lang.reflect.Modifier;
import java.net.URL;
import java.net.URLClassLoader;
import java.nio.file.Files;
import java.nio.file.Path;
import java.util.concurrent.Callable;
import java.util.regex.Matcher;
import java.util.regex.Pattern;

/** README.md: its example compiles and answers what it says, and every call of the face is named there. */
public final class ReadmeTest {
    private static final Check CHECK = new Check();
    private static final Path README = Path.of("README.md");
    /** A call that ends its line, and the answer behind it. */
    private static final Pattern ANSWERED =
            Pattern.compile("^ +((?:x\\.|tell\\().*); +// (-?\\w+)(?:: .*)?$", Pattern.MULTILINE);

    public static void main(String[] args) throws Exception {
        String page = Files.readString(README);
        everyCallIsNamed(page);
        example(page);
        CHECK.end();
    }

    private static void everyCallIsNamed(String page) {
        String table = page.substring(page.indexOf("### The calls"), page.indexOf("## Tests"));
        for (Method m : TenthBean.class.getDeclaredMethods()) {
            if (Modifier.isPublic(m.getModifiers())) {
                CHECK.due("README names " + m.getName(), table.contains("`" + m.getName() + "`"), true);
            }
        }
    }

    private static void example(String page) throws Exception {
        int begin = page.indexOf("```java") + "```java".length();
        Matcher calls = ANSWERED.matcher(page.substring(begin, page.indexOf("```", begin)));
        CHECK.due("calls with an answer in the example", calls.results().count(), 30);
        String program = calls.replaceAll(found -> Matcher.quoteReplacement("ReadmeTest.due(\""
                + found.group(1).replace("\"", "'") + "\", () -> " + found.group(1) + ", \"" + found.group(2) + "\");"));
        Path folder = Files.createTempDirectory("readme");
        Path source = folder.resolve("Example.java");
        Files.writeString(source, program);
        // The javac of .ci/run, for a java without a compiler of its own would do for the other tests.
        int failed = new ProcessBuilder("javac", "-d", folder.toString(), "-cp", System.getProperty("java.class.path"),
                source.toString()).inheritIO().start().waitFor();
        CHECK.due("the example compiles", failed, 0);
        if (failed == 0) {
            try (URLClassLoader loader = new URLClassLoader(new URL[] {folder.toUri().toURL()})) {
                loader.loadClass("Example").getMethod("main", String[].class).invoke(null, (Object) new String[0]);
            }
        }
        Files.deleteIfExists(folder.resolve("Example.class"));
        Files.delete(source);
        Files.delete(folder);
    }

    public static void due(String call, Callable<Object> asked, String want) {
        String got;
        try {
            got = String.valueOf(asked.call());
        } catch (Exception e) {
            got = e.getClass().getSimpleName();
        }
        CHECK.due(call + " answered " + got + ", README says " + want, got.equals(want), true);
    }
}
