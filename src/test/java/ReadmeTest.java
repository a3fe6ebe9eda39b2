import java.io.ByteArrayOutputStream;
import java.io.File;
import java.io.IOException;
import java.io.PrintStream;
import java.lang.reflect.Constructor;
import java.lang.reflect.Method;
import java.lang.reflect.Modifier;
import java.net.URL;
import java.net.URLClassLoader;
import java.nio.charset.StandardCharsets;
import java.nio.file.Files;
import java.nio.file.Path;
import java.util.Arrays;
import java.util.Set;
import java.util.TreeSet;
import java.util.regex.Matcher;
import java.util.regex.Pattern;
import javax.tools.JavaCompiler;
import javax.tools.ToolProvider;

/** What README.md says of the class and its tests is so. */
public final class ReadmeTest {
    private static final Check CHECK = new Check();

    public static void main(String[] args) throws Exception {
        String text = Files.readString(Path.of("README.md"));
        calls(text);
        questions(text);
        tests(text);
        example(block(text, "java"), block(text, "text"));
        CHECK.end();
    }

    /** The first cells of its table of calls are the face, no more and no less. */
    private static void calls(String text) {
        Set<String> told = new TreeSet<>();
        Matcher row = Pattern.compile("(?m)^\\| `([^`]*\\([^`]*\\))` \\|").matcher(text);
        while (row.find()) {
            told.add(row.group(1).replaceAll("(int|long) [a-z]+([,)])", "$1$2").replace(", ", ","));
        }
        Set<String> face = new TreeSet<>();
        for (Constructor<?> c : ReplayHosts.class.getConstructors()) {
            face.add(c.getName() + types(c.getParameterTypes()));
        }
        for (Method m : ReplayHosts.class.getDeclaredMethods()) {
            if (Modifier.isPublic(m.getModifiers())) {
                face.add(m.getReturnType().getName() + " " + m.getName() + types(m.getParameterTypes()));
            }
        }
        CHECK.due("calls of the face", face.size(), 19);
        CHECK.yes("README.md tells the calls " + told + ", there are " + face, told.equals(face));
    }

    private static String types(Class<?>[] types) {
        return "(" + String.join(",", Arrays.stream(types).map(Class::getName).toArray(String[]::new)) + ")";
    }

    /** Its table of host()'s questions has each that is answered, and no other. */
    private static void questions(String text) {
        Set<Integer> told = new TreeSet<>();
        Matcher row = Pattern.compile("(?m)^\\| (\\d[\\d, to]*) \\|").matcher(text);
        while (row.find()) {
            for (String part : row.group(1).split(", ")) {
                String[] ends = part.split(" to ");
                for (int what = Integer.parseInt(ends[0]); what <= Integer.parseInt(ends[ends.length - 1]); what++) {
                    told.add(what);
                }
            }
        }
        ReplayHosts x = new ReplayHosts(2, 4, 1);
        for (int what = -5; what < 100; what++) {
            CHECK.due("README.md tells host(0, " + what + ")", told.contains(what) ? 0 : -2, x.host(0, what));
        }
    }

    /** Its table of tests has each that there is, and no other. */
    private static void tests(String text) {
        Set<String> told = new TreeSet<>();
        Matcher row = Pattern.compile("(?m)^\\| ((?:`[A-Za-z]+Test`(?:, )?)+) \\|").matcher(text);
        while (row.find()) {
            told.addAll(Arrays.asList(row.group(1).replace("`", "").split(", ")));
        }
        Set<String> there = new TreeSet<>();
        for (File file : new File("src/test/java").listFiles()) {
            if (file.getName().endsWith("Test.java")) {
                there.add(file.getName().replace(".java", ""));
            }
        }
        CHECK.yes("README.md tells the tests " + told + ", there are " + there, told.equals(there));
    }

    private static String block(String text, String kind) {
        Matcher m = Pattern.compile("```" + kind + "\n(.*?)```", Pattern.DOTALL).matcher(text);
        CHECK.yes("README.md has a block of " + kind, m.find());
        return m.group(1);
    }

    /** Its example compiles, and prints what it is said to. */
    private static void example(String source, String printed) throws Exception {
        Path directory = Files.createTempDirectory("example");
        try {
            Path file = Files.writeString(directory.resolve("Example.java"), source);
            JavaCompiler compiler = ToolProvider.getSystemJavaCompiler();
            int code = compiler.run(null, null, null, "-cp", System.getProperty("java.class.path"), "-d", directory.toString(), file.toString());
            CHECK.due("the example's compiler", code, 0);
            String got = output(directory);
            CHECK.yes("the example prints:\n" + got + "README.md says:\n" + printed, got.equals(printed));
        } finally {
            remove(directory);
        }
    }

    private static String output(Path directory) throws Exception {
        ByteArrayOutputStream bytes = new ByteArrayOutputStream();
        PrintStream before = System.out;
        try (URLClassLoader loader = new URLClassLoader(new URL[] {directory.toUri().toURL()}, ReadmeTest.class.getClassLoader());
             PrintStream caught = new PrintStream(bytes, true, StandardCharsets.UTF_8)) {
            System.setOut(caught);
            loader.loadClass("Example").getMethod("main", String[].class).invoke(null, (Object) new String[0]);
        } finally {
            System.setOut(before);
        }
        return bytes.toString(StandardCharsets.UTF_8).replace(System.lineSeparator(), "\n");
    }

    private static void remove(Path directory) throws IOException {
        for (File file : directory.toFile().listFiles()) {
            Files.delete(file.toPath());
        }
        Files.delete(directory);
    }
}
