import java.io.IOException;
import java.lang.reflect.Method;
import java.lang.reflect.Modifier;
import java.net.URL;
import java.net.URLClassLoader;
import java.nio.file.Files;
import java.nio.file.Path;
import java.util.ArrayList;
import java.util.List;
import java.util.Set;
import java.util.TreeSet;
import java.util.regex.Matcher;
import java.util.regex.Pattern;
import javax.tools.ToolProvider;

/** What README.md shows is so: its example is compiled and run, its table has the calls of the class, just these. */
public final class ReadmeTest {
    /** A line of the example whose comment begins with what is due: x.told(6); // 8: .. */
    private static final Pattern ASKED = Pattern.compile("(x\\..*\\));\\s*// (-?\\d+): .*");
    private static final Pattern ROW = Pattern.compile("\\| `(\\w+)\\(([^)]*)\\)` \\|.*");
    private static final Check CHECK = new Check();

    public static void main(String[] args) throws IOException, ReflectiveOperationException {
        List<String> lines = Files.readAllLines(Path.of("README.md"));
        table(lines);
        example(exampleOf(lines));
        CHECK.end();
    }

    private static void table(List<String> lines) {
        Set<String> rows = new TreeSet<>();
        for (String line : lines) {
            Matcher row = ROW.matcher(line);
            if (row.matches()) {
                int count = row.group(2).isEmpty() ? 0 : row.group(2).split(",").length;
                CHECK.holds("one row for " + row.group(1), rows.add(row.group(1) + "(" + count + ")"));
            }
        }
        Set<String> face = new TreeSet<>();
        for (Method m : CoatTraces.class.getDeclaredMethods()) {
            if (Modifier.isPublic(m.getModifiers())) {
                face.add(m.getName() + "(" + m.getParameterCount() + ")");
            }
        }
        CHECK.holds("the table " + rows + " has the calls " + face, rows.equals(face));
    }

    private static List<String> exampleOf(List<String> lines) {
        int from = lines.indexOf("```java") + 1;
        List<String> behind = lines.subList(from, lines.size());
        CHECK.holds("there is an example", from > 0 && behind.contains("```"));
        return behind.subList(0, Math.max(0, behind.indexOf("```")));
    }

    private static void example(List<String> lines) throws IOException, ReflectiveOperationException {
        StringBuilder source = new StringBuilder("public final class Example { public static int[] answers() {\nint[] a = new int[99]; int n = 0;\n");
        List<String> calls = new ArrayList<>();
        List<Integer> wants = new ArrayList<>();
        for (String line : lines) {
            Matcher asked = ASKED.matcher(line);
            if (asked.matches()) {
                calls.add(asked.group(1));
                wants.add(Integer.valueOf(asked.group(2)));
                source.append("a[n++] = ").append(asked.group(1)).append(";\n");
            } else {
                source.append(line).append('\n');
            }
        }
        CHECK.holds("the example tells what is answered", calls.size() > 9);
        int[] got = run(source.append("return a; } }\n").toString());
        for (int i = 0; i < calls.size(); i++) {
            CHECK.due("README.md: " + calls.get(i), got[i], wants.get(i));
        }
    }

    private static int[] run(String source) throws IOException, ReflectiveOperationException {
        Path folder = Files.createTempDirectory("readme");
        Path file = folder.resolve("Example.java");
        Path made = folder.resolve("Example.class");
        try {
            Files.writeString(file, source);
            String classes = System.getProperty("java.class.path");
            int ended = ToolProvider.getSystemJavaCompiler().run(null, null, null, "-cp", classes, "-d", folder.toString(), file.toString());
            CHECK.due("README.md's example is compiled", ended, 0);
            try (URLClassLoader loader = new URLClassLoader(new URL[] {folder.toUri().toURL()})) {
                return (int[]) loader.loadClass("Example").getMethod("answers").invoke(null);
            }
        } finally {
            Files.deleteIfExists(made);
            Files.deleteIfExists(file);
            Files.deleteIfExists(folder);
        }
    }
}
