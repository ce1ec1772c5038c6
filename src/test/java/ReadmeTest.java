import java.io.IOException;
import java.lang.reflect.Method;
import java.lang.reflect.Modifier;
import java.net.URL;
import java.net.URLClassLoader;
import java.nio.file.DirectoryStream;
import java.nio.file.Files;
import java.nio.file.Path;
import java.util.ArrayList;
import java.util.Comparator;
import java.util.List;
import java.util.Set;
import java.util.TreeSet;
import java.util.regex.Matcher;
import java.util.regex.Pattern;
import java.util.stream.Stream;
import javax.tools.ToolProvider;

/**
 * What README.md shows is so: its blocks of Java, one behind the other, are compiled and run, and each call that stands
 * in a line of its own answers what stands behind it. Each call of the class is shown, and each test is named.
 */
public final class ReadmeTest {
    private static final Path README = Path.of("README.md");
    private static final Path TESTS = Path.of("src/test/java");
    private static final Pattern BLOCK = Pattern.compile("(?ms)^```java\\n(.*?)^```$");
    private static final Pattern SHOWN = Pattern.compile("(\\w+\\.(\\w+)\\(.*\\));\\s*// (-?\\d+|Integer\\.MIN_VALUE)(:.*|$)");
    private static final int LIFE = 512;

    private static final Check CHECK = new Check("ReadmeTest");
    private static final Set<String> shown = new TreeSet<>();

    public static void main(String[] args) throws Exception {
        CHECK.promise("README.md");
        String readme = Files.readString(README);
        run(program(readme));
        everyCall();
        constants(readme);
        findings(readme);
        tests(readme);
        CHECK.end();
    }

    /** Called by the program that the README's blocks become. */
    public static void due(String call, long got, long want) {
        CHECK.due(call, got, want);
    }

    // ---- the blocks

    private static String program(String readme) {
        StringBuilder text = new StringBuilder("public class Shown {\n  public static void main(String[] args) {\n");
        Matcher blocks = BLOCK.matcher(readme);
        while (blocks.find()) for (String line : blocks.group(1).split("\n")) text.append(statement(line.trim())).append('\n');
        return text.append("  }\n}\n").toString();
    }

    private static String statement(String line) {
        Matcher m = SHOWN.matcher(line);
        if (m.matches()) {
            shown.add(m.group(2));
            String answer = m.group(3).startsWith("I") ? m.group(3) : m.group(3) + "L";
            return "ReadmeTest.due(\"" + m.group(1).replace("\"", "\\\"") + "\", " + m.group(1) + ", " + answer + ");";
        }
        if (line.matches("\\w+\\.\\w+\\(.*")) CHECK.fault("a call without an answer: " + line);
        return line;
    }

    private static void run(String program) throws Exception {
        Path room = Files.createTempDirectory("readme");
        try {
            Path file = room.resolve("Shown.java");
            Files.writeString(file, program);
            String around = System.getProperty("java.class.path");
            int answer = ToolProvider.getSystemJavaCompiler().run(null, null, null, "-cp", around, "-d", room.toString(),
                file.toString());
            CHECK.due("its blocks compile", answer, 0);
            if (answer != 0) return;
            try (URLClassLoader loader = new URLClassLoader(new URL[] {room.toUri().toURL()})) {
                loader.loadClass("Shown").getMethod("main", String[].class).invoke(null, (Object) new String[0]);
            }
        } finally {
            empty(room);
        }
    }

    private static void empty(Path room) throws IOException {
        List<Path> all = new ArrayList<>();
        try (Stream<Path> inside = Files.walk(room)) {
            inside.sorted(Comparator.reverseOrder()).forEach(all::add);
        }
        for (Path path : all) Files.delete(path);
    }

    // ---- what it names

    private static void everyCall() {
        for (Method m : PosterWall.class.getDeclaredMethods()) {
            if (Modifier.isPublic(m.getModifiers())) CHECK.due("it shows " + m.getName(), shown.contains(m.getName()) ? 1 : 0, 1);
        }
        CHECK.due("its calls are fewer than an object has", CHECK.asked() < LIFE ? 1 : 0, 1);
    }

    private static void constants(String readme) throws Exception {
        Matcher m = Pattern.compile("`(NONE|BAD|NOT|FULL)` (-\\d+)").matcher(readme);
        Set<String> named = new TreeSet<>();
        while (m.find()) {
            named.add(m.group(1));
            CHECK.due(m.group(1), PosterWall.class.getField(m.group(1)).getInt(null), Long.parseLong(m.group(2)));
        }
        CHECK.due("constants that it names", named.size(), 4);
    }

    private static void findings(String readme) {
        PosterWall x = new PosterWall();
        int[] got = {x.lose(0), x.sheet(0, 0, 1) + x.lay(0, 0, 1, 0) - 1, x.lay(0, 1, 0, 0), x.sheet(1, 1, 1) + x.copy(0, 0, 1, 0, 1) - 1,
            x.sheet(0, 0, -1)};
        Matcher m = Pattern.compile("(-1\\d) (NULL|INDEX|CAST|STORE|SIZE)\\b").matcher(readme);
        int named = 0;
        while (m.find()) {
            int number = List.of("NULL", "INDEX", "CAST", "STORE", "SIZE").indexOf(m.group(2));
            named |= 1 << number;
            CHECK.due(m.group(2), got[number], Long.parseLong(m.group(1)));
        }
        CHECK.due("findings that it names", named, 31);
        CHECK.due("shower refuses by the least long and 2 more", x.shower(-1, 0, 0, 0), Long.MIN_VALUE + 2);
        CHECK.due("get refuses by the least int", x.get(-1, 0, 0), Integer.MIN_VALUE);
    }

    private static void tests(String readme) throws IOException {
        Set<String> there = new TreeSet<>();
        try (DirectoryStream<Path> files = Files.newDirectoryStream(TESTS, "*Test.java")) {
            for (Path file : files) there.add(file.getFileName().toString().replace(".java", ""));
        }
        Set<String> named = new TreeSet<>();
        Matcher m = Pattern.compile("`(\\w+Test)`").matcher(readme);
        while (m.find()) named.add(m.group(1));
        CHECK.due("it names " + named + ", there are " + there, named.equals(there) ? 1 : 0, 1);
        CHECK.due("it names .ci/run", readme.contains("`.ci/run`") && Files.isExecutable(Path.of(".ci/run")) ? 1 : 0, 1);
    }
}
