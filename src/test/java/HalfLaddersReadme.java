import java.io.IOException;
import java.lang.reflect.Field;
import java.lang.reflect.Method;
import java.lang.reflect.Modifier;
import java.nio.file.Files;
import java.nio.file.Path;
import java.util.ArrayList;
import java.util.List;
import java.util.Set;
import java.util.TreeSet;
import java.util.regex.Matcher;
import java.util.regex.Pattern;

/** README.md says what is so: its example is carried out line by line, and its tables are compared with the class. */
public final class HalfLaddersReadme {
    private static final Pattern TELL = Pattern.compile("tell\\(x, \"([^\"]*)\"\\);");
    private static final Pattern CALL = Pattern.compile("x\\.(\\w+)\\(([-0-9, ]*)\\); +// (-?\\d+)\\b.*");
    private static int wrong = 0;

    private static void holds(String what, boolean does) {
        if (!does) {
            wrong++;
            System.out.println("README.md: does not hold: " + what);
        }
    }

    public static void main(String[] args) throws IOException, ReflectiveOperationException {
        String readme = Files.readString(Path.of("README.md"));
        example(readme);
        calls(readme);
        constants(readme);
        tests(readme);
        System.out.println(wrong == 0 ? "README.md says what is so" : wrong + " things in README.md are not so");
        if (wrong != 0) {
            System.exit(1);
        }
    }

    /** Each line of the example behind the object's making is a text that is told, or a call with its answer. */
    private static void example(String readme) throws ReflectiveOperationException {
        String making = "HalfLadders x = new HalfLadders();\n";
        int begin = readme.indexOf(making);
        int end = readme.indexOf("```", Math.max(begin, 0));
        holds("there is an example", begin >= 0 && end >= 0);
        if (begin < 0 || end < 0) {
            return;
        }
        HalfLadders x = new HalfLadders();
        Set<String> called = new TreeSet<>();
        for (String line : readme.substring(begin + making.length(), end).split("\n")) {
            Matcher tell = TELL.matcher(line);
            Matcher call = CALL.matcher(line);
            if (tell.matches()) {
                tell(x, tell.group(1));
            } else if (call.matches()) {
                called.add(call.group(1));
                long answer = answer(x, call.group(1), call.group(2));
                holds(line + " (it answers " + answer + ")", answer == Long.parseLong(call.group(3)));
            } else {
                holds("this line can be carried out: " + line, line.isBlank());
            }
        }
        holds("the example calls most of the class, not only " + called, called.size() >= 18);
    }

    private static void tell(HalfLadders x, String text) {
        for (int i = 0; i < text.length(); i++) {
            x.type(text.charAt(i), 1);
        }
    }

    private static long answer(HalfLadders x, String name, String parameters) throws ReflectiveOperationException {
        List<Object> numbers = new ArrayList<>();
        for (String number : parameters.split(", *")) {
            if (!number.isEmpty()) {
                numbers.add(Integer.parseInt(number));
            }
        }
        for (Method m : face()) {
            if (m.getName().equals(name) && m.getParameterCount() == numbers.size()) {
                return ((Number) m.invoke(x, numbers.toArray())).longValue();
            }
        }
        holds("there is " + name + " of " + numbers.size() + " numbers", false);
        return Long.MIN_VALUE;
    }

    private static List<Method> face() {
        List<Method> all = new ArrayList<>();
        for (Method m : HalfLadders.class.getDeclaredMethods()) {
            if (Modifier.isPublic(m.getModifiers())) {
                all.add(m);
            }
        }
        return all;
    }

    private static void calls(String readme) {
        Set<String> rows = new TreeSet<>();
        Matcher row = Pattern.compile("(?m)^\\| `(\\w+)\\(([\\w, ]*)\\)` \\|").matcher(readme);
        while (row.find()) {
            int numbers = row.group(2).isEmpty() ? 0 : row.group(2).split(",").length;
            holds(row.group() + " stands there once", rows.add(row.group(1) + " " + numbers));
        }
        Set<String> methods = new TreeSet<>();
        for (Method m : face()) {
            methods.add(m.getName() + " " + m.getParameterCount());
        }
        holds("the table has each call, and no other: " + rows, rows.equals(methods));
    }

    private static void constants(String readme) throws ReflectiveOperationException {
        for (Field f : HalfLadders.class.getDeclaredFields()) {
            if (Modifier.isPublic(f.getModifiers())) {
                String name = "`" + f.getName() + "`";
                int number = f.getInt(null);
                holds(name + " is told with its number " + number,
                    readme.contains("| " + name + " | " + number + " |") || readme.contains(name + " (" + number + ")"));
            }
        }
    }

    private static void tests(String readme) throws IOException {
        try (var files = Files.list(Path.of("src/test/java"))) {
            for (Path file : files.toList()) {
                String name = file.getFileName().toString().replace(".java", "");
                holds("the test " + name + " is told", readme.contains("- `" + name + "`:"));
            }
        }
        holds("it says how they are run", readme.contains("    .ci/run\n"));
    }
}
