import com.sun.management.ThreadMXBean;
import java.io.IOException;
import java.lang.management.ManagementFactory;
import java.lang.reflect.Constructor;
import java.lang.reflect.Field;
import java.lang.reflect.Method;
import java.lang.reflect.Modifier;
import java.nio.file.Files;
import java.nio.file.Path;
import java.util.Arrays;
import java.util.HashSet;
import java.util.List;
import java.util.Set;
import java.util.TreeSet;
import java.util.regex.Matcher;
import java.util.regex.Pattern;

/** The face of the class, and those rules of LANGUAGE.md that can be seen from outside. */
public final class HalfLaddersLanguage {
    private static int wrong = 0;

    private static void holds(String what, boolean does) {
        if (!does) {
            wrong++;
            System.out.println("does not hold: " + what);
        }
    }

    public static void main(String[] args) throws IOException {
        face();
        classesInside();
        source(Files.readString(Path.of("src/main/java/HalfLadders.java")));
        room();
        System.out.println(wrong == 0 ? "the rules hold" : wrong + " rules do not hold");
        if (wrong != 0) {
            System.exit(1);
        }
    }

    private static void face() {
        Set<String> due = new TreeSet<>(List.of("int type(long, int)", "int clear()", "int orchard()", "int half(int, int)",
            "int tree(int, int)", "int fit(int, int)", "int climb(int, int, int)", "int ends()", "int now(int)", "int year()",
            "int lot(int)", "int best(int)", "int season(int)", "int whole(int)", "int worth(int, int)", "int asked(int)",
            "int rests()", "int cuts(int)", "int whose(int, int, int)", "int mark(int, int)", "int keep(int)", "int back(int)",
            "int count(int)", "long trace()"));
        Set<String> has = new TreeSet<>();
        Set<String> publicNames = new HashSet<>();
        for (Method m : HalfLadders.class.getDeclaredMethods()) {
            if (Modifier.isPublic(m.getModifiers())) {
                String parameters = Arrays.toString(m.getParameterTypes()).replace('[', '(').replace(']', ')');
                has.add(m.getReturnType() + " " + m.getName() + parameters);
                publicNames.add(m.getName());
            }
        }
        holds("the public methods are " + due + ", not " + has, due.equals(has));
        for (Method m : HalfLadders.class.getDeclaredMethods()) {
            boolean isPublic = Modifier.isPublic(m.getModifiers());
            holds(m + " is public or private", isPublic || Modifier.isPrivate(m.getModifiers()));
            holds(m + " bears no public name", isPublic || !publicNames.contains(m.getName()));
        }
        Constructor<?>[] constructors = HalfLadders.class.getDeclaredConstructors();
        holds("one constructor", constructors.length == 1 && constructors[0].getParameterCount() == 0);
        List<String> constants = List.of("BAD", "STATE", "FULL", "NONE", "NO");
        for (Field f : HalfLadders.class.getDeclaredFields()) {
            holds(f + " is private or a constant of the face",
                constants.contains(f.getName()) == Modifier.isPublic(f.getModifiers())
                && (constants.contains(f.getName()) || Modifier.isPrivate(f.getModifiers())));
        }
        holds("the constants", HalfLadders.BAD == -1 && HalfLadders.STATE == -2 && HalfLadders.FULL == -3
            && HalfLadders.NONE == -9 && HalfLadders.NO == -1000000);
        holds("public and final", Modifier.isPublic(HalfLadders.class.getModifiers())
            && Modifier.isFinal(HalfLadders.class.getModifiers()));
    }

    private static void classesInside() {
        Class<?>[] inside = HalfLadders.class.getDeclaredClasses();
        holds("twelve classes at most", inside.length + 1 <= 12);
        fieldsOf(HalfLadders.class);
        for (Class<?> c : inside) {
            holds(c + " is static", Modifier.isStatic(c.getModifiers()));
            holds(c + " is not public", !Modifier.isPublic(c.getModifiers()) && !Modifier.isProtected(c.getModifiers()));
            fieldsOf(c);
        }
    }

    private static void fieldsOf(Class<?> c) {
        int fields = 0;
        for (Field f : c.getDeclaredFields()) {
            boolean isStatic = Modifier.isStatic(f.getModifiers());
            holds(f + " is final, if it is static", !isStatic || Modifier.isFinal(f.getModifiers()));
            fields += isStatic ? 0 : 1;
        }
        holds(c + " has twenty fields at most", fields <= 20);
        for (Method m : c.getDeclaredMethods()) {
            holds(m + " takes seven at most", m.getParameterCount() <= 7);
        }
    }

    /** All calls of one run live in one room: what they make stays below it, were all of it kept. */
    private static void room() {
        String text = "left 5 5 5;".repeat(4) + "right 5 5 5;".repeat(4) + "tree 1 0 99;".repeat(5);
        if (!(ManagementFactory.getThreadMXBean() instanceof ThreadMXBean meter)) {
            return;
        }
        long thread = Thread.currentThread().getId();
        long before = meter.getThreadAllocatedBytes(thread);
        HalfLadders x = new HalfLadders();
        int calls = 0;
        for (int i = 0; i < text.length(); i++, calls++) {
            x.type(text.charAt(i), 1);
        }
        x.orchard();
        for (calls++; calls < 512; calls++) {
            x.season(8);
        }
        long made = meter.getThreadAllocatedBytes(thread) - before;
        holds(made + " bytes are fewer than 600,000 objects have at least", made < 600_000L * 16);
    }

    private static void source(String text) {
        String code = text.replaceAll("(?s)/\\*.*?\\*/", "").replaceAll("//[^\n]*", "");
        for (String word : List.of("throw", "try", "catch", "finally", "synchronized", "assert", "package", "Object",
                "hashCode", "Thread", "native", "volatile", "Exact", "System(?!\\.arraycopy)")) {
            holds("no " + word, !Pattern.compile("\\b\\w*" + word + "\\b").matcher(code).find());
        }
        for (String sign : List.of("->", "::", "@")) {
            holds("no " + sign, !code.contains(sign));
        }
        Matcher imports = Pattern.compile("import ([^;]*);").matcher(code);
        while (imports.find()) {
            holds("no import of " + imports.group(1), imports.group(1).matches("java\\.util\\.(Arrays|ArrayList|List|Iterator)"));
        }
        int length = 0;
        for (String line : text.split("\n")) {
            length = line.matches(" {4}(?! ).*\\{| {8}(?! ).*\\{") ? 0 : length + 1;
            holds("sixty lines at most ahead of: " + line, !line.matches(" {4,8}\\}") || length <= 60);
        }
        holds("signs are 32 to 126 and line ends", text.chars().allMatch(c -> c == '\n' || c >= 32 && c < 127));
    }
}
