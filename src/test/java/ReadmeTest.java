import java.lang.reflect.Method;
import java.lang.reflect.Modifier;
import java.net.URL;
import java.net.URLClassLoader;
import java.nio.file.Files;
import java.nio.file.Path;
import java.util.ArrayList;
import java.util.List;
import java.util.regex.Matcher;
import java.util.regex.Pattern;
import java.util.spi.ToolProvider;

/** The program that README.md shows compiles, and each of its calls answers what stands behind it there. */
public final class ReadmeTest {
    private static final Pattern BLOCK = Pattern.compile("```java\n(.*?)```", Pattern.DOTALL);
    private static final Pattern CALL = Pattern.compile("( +)(x\\.\\w+\\(.*\\)); +// (-?\\d+|NONE|true|false): .*");
    private static final Pattern ROW = Pattern.compile("\\| `(\\w+)\\(.*");
    private static int looked = 0;
    private static int wrong = 0;

    /** Called by the program of README.md once its calls are put in here. */
    public static void due(String call, Object got, String want) {
        looked++;
        String told = want.equals("NONE") ? "-1" : want;
        if (!told.equals(String.valueOf(got))) {
            wrong++;
            System.out.println("README.md: " + call + " answered " + got + ", told is " + want);
        }
    }

    private static String checked(String program) {
        StringBuilder code = new StringBuilder();
        for (String line : program.split("\n")) {
            Matcher call = CALL.matcher(line);
            if (call.matches()) {
                code.append("ReadmeTest.due(\"").append(call.group(2)).append("\", ").append(call.group(2));
                code.append(", \"").append(call.group(3)).append("\");\n");
            } else {
                if (line.contains(" // ")) {
                    wrong++;
                    System.out.println("README.md: no answer can be read from " + line);
                }
                code.append(line).append('\n');
            }
        }
        return code.toString();
    }

    private static void run(String program) throws Exception {
        Path room = Files.createTempDirectory("readme");
        Path source = room.resolve("Example.java");
        Files.writeString(source, checked(program));
        String classes = System.getProperty("java.class.path");
        int failed = ToolProvider.findFirst("javac").orElseThrow().run(System.out, System.out,
            "-cp", classes, "-d", room.toString(), source.toString());
        if (failed != 0) {
            wrong++;
            System.out.println("README.md: its program does not compile");
        } else {
            try (URLClassLoader loader = new URLClassLoader(new URL[] {room.toUri().toURL()})) {
                loader.loadClass("Example").getMethod("main", String[].class).invoke(null, (Object) new String[0]);
            }
        }
        Files.deleteIfExists(room.resolve("Example.class"));
        Files.delete(source);
        Files.delete(room);
    }

    /** Each public method has its row in the list of calls, and there is no row of another. */
    private static void rows(String readme) {
        List<String> due = new ArrayList<>();
        for (Method method : FacetSieve.class.getDeclaredMethods()) {
            if (Modifier.isPublic(method.getModifiers())) {
                due.add(method.getName());
            }
        }
        for (String line : readme.split("\n")) {
            Matcher row = ROW.matcher(line);
            if (row.matches() && !due.remove(row.group(1))) {
                wrong++;
                System.out.println("README.md: a row too much: " + line);
            }
        }
        if (!due.isEmpty()) {
            wrong++;
            System.out.println("README.md: no row of " + due);
        }
    }

    public static void main(String[] args) throws Exception {
        String readme = Files.readString(Path.of("README.md"));
        Matcher block = BLOCK.matcher(readme);
        if (block.find()) {
            run(block.group(1));
        }
        rows(readme);
        System.out.println(looked + " answers of README.md looked at, " + wrong + " wrong");
        if (wrong != 0 || looked == 0) {
            System.exit(1);
        }
    }
}
