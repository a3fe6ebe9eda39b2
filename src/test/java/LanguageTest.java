import java.lang.management.ManagementFactory;
import java.lang.reflect.Constructor;
import java.lang.reflect.Field;
import java.lang.reflect.Method;
import java.lang.reflect.Modifier;
import java.nio.file.Files;
import java.nio.file.Path;
import java.util.Arrays;
import java.util.Set;
import java.util.TreeSet;
import java.util.regex.Pattern;

/** Rules of LANGUAGE.md that can be seen in the source, in the face, and in what a run makes. */
public final class LanguageTest {
    private static final Check CHECK = new Check();
    private static final String[] FACE = {
        "boolean put(int,long)", "boolean boot()", "int run(int,int)", "boolean key(int)", "boolean packet(int,long,long,long,long)",
        "boolean tick()", "boolean disk()", "boolean deliver()", "boolean ack()", "boolean suspect(int)", "boolean protect(int)",
        "int transfer()", "boolean crash(int)", "boolean repair(int)", "long host(int,int)", "int memory(int,int)", "int block(int,int)", "int out(int)",
    };

    public static void main(String[] args) throws Exception {
        face();
        classes();
        source(Files.readString(Path.of("src/main/java/ReplayHosts.java")));
        room();
        CHECK.end();
    }

    private static void face() {
        Class<?> c = ReplayHosts.class;
        CHECK.yes("public and final", Modifier.isPublic(c.getModifiers()) && Modifier.isFinal(c.getModifiers()));
        Set<String> wanted = new TreeSet<>(Arrays.asList(FACE));
        Set<String> seen = new TreeSet<>();
        for (Method m : c.getDeclaredMethods()) {
            String[] types = Arrays.stream(m.getParameterTypes()).map(Class::getName).toArray(String[]::new);
            if (Modifier.isPublic(m.getModifiers())) {
                seen.add(m.getReturnType().getName() + " " + m.getName() + "(" + String.join(",", types) + ")");
            } else {
                CHECK.yes("private: " + m, Modifier.isPrivate(m.getModifiers()));
            }
        }
        CHECK.yes("the face's methods " + seen, seen.equals(wanted));
        for (Constructor<?> k : c.getDeclaredConstructors()) {
            CHECK.yes("the constructor " + k, Arrays.equals(k.getParameterTypes(), new Class<?>[] {int.class, int.class, int.class}));
        }
        for (Field f : c.getDeclaredFields()) {
            CHECK.yes("private, or NONE: " + f, Modifier.isPrivate(f.getModifiers()) || f.getName().equals("NONE"));
        }
        CHECK.due("NONE", ReplayHosts.NONE, -1);
    }

    private static void classes() {
        Set<String> names = new TreeSet<>();
        for (String method : FACE) {
            names.add(method.substring(method.indexOf(' ') + 1, method.indexOf('(')));
        }
        int count = 0;
        look(ReplayHosts.class, names);
        for (Class<?> c : ReplayHosts.class.getDeclaredClasses()) {
            count++;
            CHECK.yes("static: " + c, Modifier.isStatic(c.getModifiers()) && !Modifier.isPublic(c.getModifiers()));
            look(c, names);
        }
        CHECK.yes("at most some twelve classes", count <= 12);
    }

    private static void look(Class<?> c, Set<String> names) {
        int own = 0;
        for (Field f : c.getDeclaredFields()) {
            own += Modifier.isStatic(f.getModifiers()) ? 0 : 1;
            CHECK.yes("static fields are final: " + f, !Modifier.isStatic(f.getModifiers()) || Modifier.isFinal(f.getModifiers()));
        }
        CHECK.yes("at most some twenty fields in " + c, own <= 20);
        for (Method m : c.getDeclaredMethods()) {
            CHECK.yes("at most seven parameters: " + m, m.getParameterCount() <= 7);
            CHECK.yes("a name of the face: " + m, c == ReplayHosts.class && Modifier.isPublic(m.getModifiers()) || !names.contains(m.getName()));
        }
    }

    private static void source(String text) {
        String code = Pattern.compile("/\\*.*?\\*/", Pattern.DOTALL).matcher(text).replaceAll("").replaceAll("//[^\n]*", "");
        for (String word : new String[] {"throw", "throws", "try", "catch", "synchronized", "assert", "volatile", "package", "Object", "String", "Thread"}) {
            CHECK.no("the word " + word, Pattern.compile("\\b" + word + "\\b").matcher(code).find());
        }
        for (String sign : new String[] {"->", "::", "static {", "Exact(", "System.out", "fill("}) {
            CHECK.no("the sign " + sign, code.contains(sign));
        }
        for (String line : code.split("\n")) {
            CHECK.yes(line, !line.startsWith("import ") || line.equals("import java.util.Arrays;"));
        }
        lengths(code);
    }

    private static void lengths(String code) {
        int since = 0;
        String name = "";
        for (String line : code.split("\n")) {
            since++;
            if (line.matches(" {4,8}[a-z].*\\) \\{")) {
                since = 0;
                name = line.trim();
            } else if (line.equals("    }") || line.equals("        }")) {
                CHECK.yes("at most sixty lines: " + name, since <= 60);
            }
        }
    }

    /** What the dearest run makes, in bytes: far below 600,000 objects and 7.3 million elements. */
    private static void room() {
        com.sun.management.ThreadMXBean bean = (com.sun.management.ThreadMXBean) ManagementFactory.getThreadMXBean();
        dearestRun();
        long before = bean.getCurrentThreadAllocatedBytes();
        dearestRun();
        long made = bean.getCurrentThreadAllocatedBytes() - before;
        CHECK.yes("a run makes " + made + " bytes", made < 1_000_000);
    }

    private static void dearestRun() {
        Asm asm = new Asm().devices().addi(5, 0, 32).sw(5, 1, Asm.LENGTH).sw(0, 1, Asm.SEND).jal(0, -4);
        ReplayHosts x = asm.booted(4, 16, 32);
        for (int i = 0; i < 240; i++) {
            x.run(0, 2000);
            x.packet(32, 1, 2, 3, 4);
        }
        x.protect(1);
        for (int i = 0; i < 17; i++) {
            x.transfer();
        }
        for (int i = 0; i < 80; i++) {
            x.run(0, 2000);
            x.deliver();
            x.ack();
        }
    }
}
