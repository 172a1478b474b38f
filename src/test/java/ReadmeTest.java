import java.io.ByteArrayOutputStream;
import java.io.PrintStream;
import java.lang.reflect.Method;
import java.lang.reflect.Modifier;
import java.net.URL;
import java.net.URLClassLoader;
import java.nio.file.Files;
import java.nio.file.Path;
import java.util.regex.Matcher;
import java.util.regex.Pattern;
import javax.tools.ToolProvider;

/** README.md tells the truth: its example prints what it says, and no call of the face is missing. */
public final class ReadmeTest {
    public static void main(String[] args) throws Exception {
        String readme = Files.readString(Path.of("README.md"));
        String due = block(readme, "text").strip();
        String got = printed(block(readme, "java")).strip();
        if (!got.equals(due)) System.out.println("the example printed\n" + got);
        Checks.due("the example prints what stands below it", 1, got.equals(due) ? 1 : 0);
        for (Method m : AlarmRule.class.getDeclaredMethods()) {
            boolean open = Modifier.isPublic(m.getModifiers());
            boolean named = readme.contains("`" + m.getName() + "`") || readme.contains(m.getName() + "(");
            Checks.due(m.getName() + " is named", 1, !open || named ? 1 : 0);
        }
        Checks.end("ReadmeTest");
    }

    private static String block(String readme, String kind) {
        Matcher m = Pattern.compile("(?s)```" + kind + "\n(.*?)```").matcher(readme);
        return m.find() ? m.group(1) : "";
    }

    private static String printed(String source) throws Exception {
        Path place = Files.createTempDirectory("example");
        Path file = Files.writeString(place.resolve("Example.java"), source);
        int compiled = ToolProvider.getSystemJavaCompiler().run(null, null, null, "-d", place.toString(),
            "-cp", System.getProperty("java.class.path"), file.toString());
        Checks.due("the example compiles", 0, compiled);
        if (compiled != 0) return "";
        PrintStream out = System.out;
        ByteArrayOutputStream kept = new ByteArrayOutputStream();
        try (URLClassLoader loader = new URLClassLoader(new URL[] {place.toUri().toURL()})) {
            System.setOut(new PrintStream(kept, true));
            loader.loadClass("Example").getMethod("main", String[].class).invoke(null, (Object) new String[0]);
        } finally {
            System.setOut(out);
            for (String name : place.toFile().list()) Files.delete(place.resolve(name));
            Files.delete(place);
        }
        return kept.toString().replace("\r\n", "\n");
    }
}
