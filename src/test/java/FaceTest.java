import java.lang.reflect.Constructor;
import java.lang.reflect.Field;
import java.lang.reflect.Method;
import java.lang.reflect.Modifier;
import java.nio.charset.StandardCharsets;
import java.nio.file.Files;
import java.nio.file.Path;
import java.util.Arrays;
import java.util.List;
import java.util.Set;
import java.util.TreeSet;
import java.util.regex.Matcher;
import java.util.regex.Pattern;

/** The public face as the document lists it, and the rules of LANGUAGE.md that a scan can see. */
public final class FaceTest {
    private static final List<String> METHODS = List.of("row(int,int,int)", "set(int,int,int)",
        "copy(int,int,int,int,int)", "drop(int)", "feed(long,int)", "walk()", "fault()", "lay(int,int)", "pitch(int)",
        "vow(int,int)", "splice(int)", "pull(int,int)", "year(int)", "undo()", "yarn(int,int)", "bears(int)",
        "best(int)", "cheapest(int,int)", "odds(int,int)", "risk(int,int,int)", "whose(int,int)", "geese(int)",
        "fathoms(int)", "image(int)", "restore(int)", "kind(int)", "as(int,int)", "ask(int,int)", "trace(int)",
        "count(int)", "status()");
    private static final List<String> FORBIDDEN = List.of("throw", "throws", "try", "catch", "finally",
        "synchronized", "assert", "import", "package", "protected", "Object", "Exception", "float", "double",
        "Thread", "equals", "hashCode", "toString");

    private static int wrong = 0;

    private static void due(boolean right, String what) {
        if (!right) {
            wrong++;
            System.out.println(what);
        }
    }

    public static void main(String[] args) throws Exception {
        face();
        inside();
        String path = args.length > 0 ? args[0] : "src/main/java/VowRope.java";
        source(Files.readString(Path.of(path), StandardCharsets.ISO_8859_1));
        if (wrong > 0) {
            System.exit(1);
        }
    }

    private static void face() throws Exception {
        Class<VowRope> c = VowRope.class;
        due(Modifier.isPublic(c.getModifiers()) && Modifier.isFinal(c.getModifiers()), "the class is public and final");
        Set<String> seen = new TreeSet<>();
        Set<String> names = new TreeSet<>();
        for (Method m : c.getDeclaredMethods()) {
            if (Modifier.isPrivate(m.getModifiers())) {
                continue;
            }
            due(m.getReturnType() == int.class && m.getModifiers() == Modifier.PUBLIC, "not as told: " + m);
            seen.add(signature(m));
            names.add(m.getName());
        }
        due(seen.equals(new TreeSet<>(METHODS)), "the methods are " + seen);
        for (Method m : c.getDeclaredMethods()) {
            due(!Modifier.isPrivate(m.getModifiers()) || !names.contains(m.getName()), "private: " + m);
        }
        Set<String> fields = new TreeSet<>();
        for (Field f : c.getDeclaredFields()) {
            if (!Modifier.isPrivate(f.getModifiers())) {
                fields.add(f.getName() + "=" + f.getInt(null));
                due(f.getModifiers() == (Modifier.PUBLIC | Modifier.STATIC | Modifier.FINAL), "not as told: " + f);
            }
        }
        due(fields.equals(new TreeSet<>(List.of("NONE=-1000000", "BAD=-1000001", "STATE=-1000002", "FULL=-1000003"))),
            "the constants are " + fields);
        Constructor<?>[] made = c.getDeclaredConstructors();
        due(made.length == 1 && made[0].getModifiers() == Modifier.PUBLIC && made[0].getParameterCount() == 0,
            "the constructors are " + Arrays.toString(made));
    }

    private static String signature(Method m) {
        StringBuilder s = new StringBuilder(m.getName()).append('(');
        for (Class<?> p : m.getParameterTypes()) {
            s.append(s.charAt(s.length() - 1) == '(' ? "" : ",").append(p.getName());
        }
        return s.append(')').toString();
    }

    private static void inside() {
        Class<?>[] classes = VowRope.class.getDeclaredClasses();
        due(classes.length <= 12, "classes inside: " + classes.length);
        for (Class<?> c : classes) {
            due(Modifier.isStatic(c.getModifiers()) && !Modifier.isPublic(c.getModifiers()), "not static: " + c);
            int fields = 0;
            for (Field f : c.getDeclaredFields()) {
                fields += Modifier.isStatic(f.getModifiers()) ? 0 : 1;
                due(!Modifier.isStatic(f.getModifiers()) || Modifier.isFinal(f.getModifiers()), "static: " + f);
            }
            due(fields <= 20, "fields of " + c + ": " + fields);
            for (Method m : c.getDeclaredMethods()) {
                due(m.getParameterCount() <= 7, "parameters of " + m);
                due(METHODS.stream().noneMatch(s -> s.startsWith(m.getName() + "(")), "a public one's name: " + m);
            }
        }
    }

    private static void source(String text) {
        due(text.chars().allMatch(c -> c == 10 || c >= 32 && c < 127), "a sign that is none of 32 to 126");
        String code = text.replaceAll("(?s)/\\*.*?\\*/", "").replaceAll("//[^\n]*", "");
        for (String word : FORBIDDEN) {
            due(!Pattern.compile("\\b" + word + "\\b").matcher(code).find(), "forbidden: " + word);
        }
        due(!code.contains("->") && !code.contains("::") && !code.contains("Exact"), "a lambda, a reference, an Exact");
        Matcher calls = Pattern.compile("\\b(Math|Integer|Long|System|Arrays)\\.(\\w+)").matcher(code);
        while (calls.find()) {
            due(List.of("max", "min", "bitCount", "arraycopy").contains(calls.group(2)), "library: " + calls.group());
        }
        int length = 0;
        for (String line : code.split("\n")) {
            length = line.matches(" {4,8}[^ ].*\\) \\{") ? 0 : length + 1;
            due(length < 60 || !line.matches(" {4,8}\\}"), "a method of " + length + " lines");
        }
    }
}
