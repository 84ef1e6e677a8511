import java.io.File;
import java.lang.reflect.Field;
import java.lang.reflect.Method;
import java.lang.reflect.Modifier;
import java.nio.file.Files;
import java.nio.file.Path;
import java.util.List;
import java.util.Set;
import java.util.TreeSet;
import java.util.regex.Matcher;
import java.util.regex.Pattern;

/** README.md tells the truth: its examples answer as it says, and it leaves out no call and no test. */
public final class ReadmeTest {
    private static final Pattern EXAMPLE = Pattern.compile("few\\.(\\w+)\\(([^()]*)\\); *// (-?\\d+): .+");
    private static final Pattern TOLD_TEST = Pattern.compile("\\| (\\w+Test) \\| .+ \\|");

    public static void main(String[] args) throws Exception {
        List<String> lines = Files.readAllLines(Path.of("README.md"));
        examples(lines);
        calls(String.join("\n", lines));
        constants(lines);
        tests(lines);
        Due.end("ReadmeTest");
    }

    /** The examples are one run of calls on one object, from the first to the last. */
    private static void examples(List<String> lines) throws Exception {
        FewSigns few = new FewSigns();
        Set<String> shown = new TreeSet<>();
        for (String line : lines) {
            if (line.startsWith("few.")) {
                Matcher example = EXAMPLE.matcher(line);
                Due.holds("an example says its answer: " + line, example.matches());
                if (example.matches()) {
                    shown.add(example.group(1));
                    Due.is(line, answer(few, example.group(1), example.group(2)), Long.parseLong(example.group(3)));
                }
            }
        }
        Due.holds("each call is shown: " + shown, shown.equals(faceNames()));
    }

    private static int answer(FewSigns few, String name, String numbers) throws Exception {
        String[] told = numbers.isEmpty() ? new String[0] : numbers.split(", *");
        Method method = methodNamed(name);
        Class<?>[] kinds = method.getParameterTypes();
        Due.is(name + " takes so many", told.length, kinds.length);
        Object[] values = new Object[kinds.length];
        for (int i = 0; i < kinds.length; i++) {
            long value = Long.decode(told[i].replace("L", ""));
            if (kinds[i] == long.class) {
                values[i] = value;
            } else {
                values[i] = Math.toIntExact(value);
            }
        }
        return (Integer) method.invoke(few, values);
    }

    private static Method methodNamed(String name) {
        for (Method method : FewSigns.class.getDeclaredMethods()) {
            if (Modifier.isPublic(method.getModifiers()) && method.getName().equals(name)) {
                return method;
            }
        }
        throw new IllegalArgumentException("README.md shows a call that is not there: " + name);
    }

    private static Set<String> faceNames() {
        Set<String> names = new TreeSet<>();
        for (Method method : FewSigns.class.getDeclaredMethods()) {
            if (Modifier.isPublic(method.getModifiers())) {
                names.add(method.getName());
            }
        }
        return names;
    }

    private static void calls(String page) {
        for (String name : faceNames()) {
            int parameters = methodNamed(name).getParameterCount();
            String some = parameters == 0 ? "" : "\\w+" + ", \\w+".repeat(parameters - 1);
            Pattern row = Pattern.compile("(?m)^\\| `" + name + "\\(" + some + "\\)` \\| .+ \\|$");
            Due.holds("README.md tells of " + name, row.matcher(page).find());
        }
    }

    private static void constants(List<String> lines) throws Exception {
        for (Field field : FewSigns.class.getDeclaredFields()) {
            if (Modifier.isPublic(field.getModifiers())) {
                String row = "| " + field.getInt(null) + " | `" + field.getName() + "` |";
                Due.holds("README.md tells of " + row, lines.stream().anyMatch(line -> line.startsWith(row)));
            }
        }
    }

    private static void tests(List<String> lines) {
        Set<String> told = new TreeSet<>();
        for (String line : lines) {
            Matcher row = TOLD_TEST.matcher(line);
            if (row.matches()) {
                told.add(row.group(1));
            }
        }
        Set<String> there = new TreeSet<>();
        File[] files = new File("src/test/java").listFiles();
        for (File file : files == null ? new File[0] : files) {
            if (file.getName().endsWith("Test.java")) {
                there.add(file.getName().replace(".java", ""));
            }
        }
        Due.holds("README.md tells of the tests that are there: " + told, told.equals(there));
    }
}
