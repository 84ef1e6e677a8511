import java.lang.reflect.Constructor;
import java.lang.reflect.Field;
import java.lang.reflect.Method;
import java.lang.reflect.Modifier;
import java.nio.file.Files;
import java.nio.file.Path;
import java.util.HashSet;
import java.util.Set;
import java.util.TreeSet;

/** The public face is the document's and no more, and the source keeps to the rules of LANGUAGE.md. */
public final class FaceTest {
    private static final String[] FACE = {
        "sign(int,int,int)", "drop()", "about(int,int)", "keeps(int,int)", "reached(int)", "least(int,int)",
        "by(int,int,int)", "farthest(int,int)", "costing(int,int)", "says(int)", "lacks(int)", "sets(int)",
        "alone(int)", "lets(int,int,int)", "letting(int,int)", "around(int,int)", "sorts(int,int)", "kept(int)",
        "type(long,int)", "clear()", "read(int)", "formula(int,int)", "leastened(int)", "both(int,int,int)",
        "count(int)",
    };

    /** What the interface says ahead of the calls, each with the first call behind it. */
    private static final String[][] HEADINGS = {
        {"signs", "sign"}, {"what can be said", "reached"}, {"families", "says"}, {"relations", "lets"},
        {"formulas", "type"},
    };

    public static void main(String[] args) throws Exception {
        constants();
        face();
        classesInside();
        source(Files.readString(Path.of(args.length > 0 ? args[0] : "src/main/java/FewSigns.java")));
        Due.end("FaceTest");
    }

    private static void constants() {
        Due.is("BAD", FewSigns.BAD, -1);
        Due.is("STATE", FewSigns.STATE, -2);
        Due.is("FULL", FewSigns.FULL, -3);
        Due.is("NONE", FewSigns.NONE, -9);
    }

    private static void face() {
        Set<String> due = new TreeSet<>(Set.of(FACE));
        Set<String> names = new HashSet<>();
        Set<String> found = new TreeSet<>();
        for (Method method : FewSigns.class.getDeclaredMethods()) {
            if (Modifier.isPublic(method.getModifiers())) {
                names.add(method.getName());
                String whole = method.toString();
                found.add(whole.substring(whole.indexOf("FewSigns.") + 9));
                Due.holds(whole + " answers an int", method.getReturnType() == int.class);
            }
        }
        Due.holds("the public methods are the document's: " + found, found.equals(due));
        for (Method method : FewSigns.class.getDeclaredMethods()) {
            int how = method.getModifiers();
            Due.holds(method + " is public or private", Modifier.isPublic(how) || Modifier.isPrivate(how));
            Due.holds(method + " bears no public name",
                    Modifier.isPublic(how) || !names.contains(method.getName()));
        }
        for (Field field : FewSigns.class.getDeclaredFields()) {
            int how = field.getModifiers();
            boolean constant = Set.of("BAD", "STATE", "FULL", "NONE").contains(field.getName());
            Due.holds(field + " is private or the document's",
                    constant ? Modifier.isPublic(how) : Modifier.isPrivate(how));
            Due.holds(field + " is final, if static", !Modifier.isStatic(how) || Modifier.isFinal(how));
        }
        Constructor<?>[] made = FewSigns.class.getDeclaredConstructors();
        Due.holds("one public constructor of nothing", made.length == 1 && made[0].getParameterCount() == 0
                && Modifier.isPublic(made[0].getModifiers()));
        Due.holds("the class is public and final", Modifier.isPublic(FewSigns.class.getModifiers())
                && Modifier.isFinal(FewSigns.class.getModifiers()));
    }

    private static void classesInside() {
        Class<?>[] inside = FewSigns.class.getDeclaredClasses();
        Due.holds("at most twelve classes", inside.length < 12);
        for (Class<?> one : inside) {
            int how = one.getModifiers();
            Due.holds(one + " is static, not public", Modifier.isStatic(how) && !Modifier.isPublic(how));
            int fields = 0;
            for (Field field : one.getDeclaredFields()) {
                boolean isStatic = Modifier.isStatic(field.getModifiers());
                Due.holds(field + " is final, if static", !isStatic || Modifier.isFinal(field.getModifiers()));
                fields += isStatic ? 0 : 1;
            }
            Due.holds(one + " has few fields", fields <= 20);
            for (Method method : one.getDeclaredMethods()) {
                Due.holds(method + " takes at most seven", method.getParameterCount() <= 7);
            }
        }
    }

    private static void source(String source) {
        String code = source.replaceAll("(?s)/\\*.*?\\*/", " ").replaceAll("//[^\n]*", " ");
        String[] barred = {"throw", "throws", "try", "catch", "finally", "synchronized", "assert", "import",
            "package", "protected", "System", "Object", "var", "while", "goto"};
        for (String word : barred) {
            Due.holds("no word " + word, !code.matches("(?s).*\\b" + word + "\\b.*"));
        }
        Due.holds("no lambda", !code.contains("->"));
        Due.holds("no method reference", !code.contains("::"));
        Due.holds("no division", !code.contains("/") && !code.contains("%"));
        for (int i = 0; i < source.length(); i++) {
            if (source.charAt(i) > 126) {
                Due.holds("plain signs alone, at " + i, false);
            }
        }
        order(source);
        shortMethods(source.split("\n"));
    }

    /** The calls stand in the document's order, behind its headings. */
    private static void order(String source) {
        int from = 0;
        for (String call : FACE) {
            int at = source.indexOf("    public int " + call.substring(0, call.indexOf('(') + 1));
            Due.holds(call + " stands in its order", at > from);
            from = at;
        }
        for (String[] heading : HEADINGS) {
            Due.holds("the heading " + heading[0],
                    source.contains("    // ---- " + heading[0] + "\n\n    public int " + heading[1] + "("));
        }
    }

    private static void shortMethods(String[] lines) {
        String end = "";
        int since = 0;
        int methods = 0;
        for (String line : lines) {
            Due.holds("a line is short: " + line, line.length() <= 110);
            since++;
            if (line.matches("    (    )?\\S.*\\) \\{")) {
                end = line.replaceAll("\\S.*", "") + "}";
                since = 1;
                methods++;
            } else if (line.equals(end)) {
                Due.holds("a method is at most sixty lines, not " + since, since <= 60);
                end = "";
            }
        }
        Due.holds("methods were found", methods > 60);
    }
}
