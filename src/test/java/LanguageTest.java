import java.lang.reflect.Constructor;
import java.lang.reflect.Field;
import java.lang.reflect.Method;
import java.lang.reflect.Modifier;
import java.nio.file.Files;
import java.nio.file.Path;
import java.util.HashSet;
import java.util.List;
import java.util.Set;
import java.util.TreeSet;
import java.util.regex.Matcher;
import java.util.regex.Pattern;

/** The face of the class, and those of LANGUAGE.md's rules that can be seen from outside. */
public final class LanguageTest {
    private static final Checks CHECKS = new Checks();
    private static final Path SOURCE = Path.of("src/main/java/StepPurse.java");
    private static final Set<String> FACE = Set.of("int make(int)", "int insert(int,long,int)",
        "int rise(int,long,int)", "int find(int,long)", "int drop(int,long)", "int below(int,long)",
        "int above(int,long)", "int split(int,long)", "int join(int,int)", "int pop(int)",
        "int meld(int,int)", "int push(int,long)", "int pull(int)", "long at(int,int)",
        "long foundKey()", "int foundValue()", "int about(int,int)", "int price(int,int,int)",
        "int node(int,int,int)", "long nodeKey(int,int)", "int ledger(int,int)", "int spread(int)",
        "int count(int)");
    private static final List<String> FORBIDDEN = List.of("throw", "throws", "try", "catch",
        "synchronized", "assert", "import", "package", "new Object", "System", "Random", "Thread",
        "->", "::", "\\.equals", "hashCode", "toString", "Exact", "Optional", "Map", "Stream",
        "java\\.", "javax\\.", "Double", "Float", "native", "strictfp", "volatile", "transient");
    /** The library's functions that the class may call; rule 4 allows more. */
    private static final Set<String> LIBRARY = Set.of("Math.max", "Math.min", "Math.abs");
    private static final Set<Class<?>> STATIC_TYPES = Set.of(int.class, long.class, boolean.class,
        char.class, String.class, int[].class, long[].class, char[].class, byte[].class);

    public static void main(String[] args) throws Exception {
        face();
        constants();
        nested();
        source();
        CHECKS.end();
    }

    private static void face() {
        CHECKS.holds("public and final",
            Modifier.isPublic(StepPurse.class.getModifiers())
                && Modifier.isFinal(StepPurse.class.getModifiers()));
        Constructor<?>[] made = StepPurse.class.getDeclaredConstructors();
        CHECKS.due("constructors", made.length, 1);
        CHECKS.holds("a public one without arguments",
            Modifier.isPublic(made[0].getModifiers()) && made[0].getParameterCount() == 0);
        Set<String> seen = new TreeSet<>();
        for (Method m : StepPurse.class.getDeclaredMethods()) {
            if (Modifier.isPublic(m.getModifiers())) {
                seen.add(signature(m));
            } else {
                CHECKS.holds("private: " + m, Modifier.isPrivate(m.getModifiers()));
            }
        }
        CHECKS.holds("the document's methods: " + seen, seen.equals(new TreeSet<>(FACE)));
    }

    private static String signature(Method m) {
        StringBuilder text = new StringBuilder(m.getReturnType() + " " + m.getName() + "(");
        for (Class<?> type : m.getParameterTypes()) {
            text.append(text.charAt(text.length() - 1) == '(' ? "" : ",").append(type);
        }
        return text.append(")").toString();
    }

    private static void constants() throws IllegalAccessException {
        Set<String> seen = new TreeSet<>();
        for (Field f : StepPurse.class.getDeclaredFields()) {
            staticIsConstant(f);
            if (Modifier.isPublic(f.getModifiers())) {
                seen.add(f.getName() + f.getInt(null));
            } else {
                CHECKS.holds("private: " + f, Modifier.isPrivate(f.getModifiers()));
            }
        }
        CHECKS.holds("the document's constants: " + seen,
            seen.equals(Set.of("NONE-1", "KIND-2", "EMPTY-3", "ORDER-4", "FULL-5")));
    }

    private static void staticIsConstant(Field f) {
        boolean constant = Modifier.isFinal(f.getModifiers()) && STATIC_TYPES.contains(f.getType());
        CHECKS.holds("static fields are constants: " + f,
            constant || !Modifier.isStatic(f.getModifiers()));
    }

    private static void nested() {
        Set<String> names = new HashSet<>();
        for (Method m : StepPurse.class.getDeclaredMethods()) {
            if (Modifier.isPublic(m.getModifiers())) {
                names.add(m.getName());
            } else {
                CHECKS.holds("no public name: " + m, !bearsPublicName(m));
            }
        }
        Class<?>[] inside = StepPurse.class.getDeclaredClasses();
        CHECKS.holds("at most some twelve classes: " + inside.length, inside.length < 12);
        for (Class<?> c : inside) {
            CHECKS.holds("static and private: " + c, Modifier.isStatic(c.getModifiers())
                && Modifier.isPrivate(c.getModifiers()));
            CHECKS.holds("at most some twenty fields: " + c, c.getDeclaredFields().length <= 20);
            for (Field f : c.getDeclaredFields()) {
                staticIsConstant(f);
            }
            for (Method m : c.getDeclaredMethods()) {
                CHECKS.holds("no public name: " + m, !names.contains(m.getName()));
                CHECKS.holds("at most seven parameters: " + m, m.getParameterCount() <= 7);
            }
        }
    }

    private static boolean bearsPublicName(Method m) {
        for (String signature : FACE) {
            if (signature.contains(" " + m.getName() + "(")) {
                return true;
            }
        }
        return false;
    }

    private static void source() throws Exception {
        String text = Files.readString(SOURCE);
        String code = text.replaceAll("(?s)/\\*.*?\\*/", "").replaceAll("//[^\n]*", "");
        for (String word : FORBIDDEN) {
            boolean isName = word.matches("[A-Za-z ]+");
            Matcher m = Pattern.compile(isName ? "\\b" + word + "\\b" : word).matcher(code);
            CHECKS.holds("not in the source: " + word, !m.find());
        }
        Matcher call = Pattern.compile("\\b[A-Z]\\w*\\.\\w+").matcher(code);
        while (call.find()) {
            CHECKS.holds("of the library: " + call.group(), LIBRARY.contains(call.group()));
        }
        CHECKS.holds("characters 0 to 255", text.chars().allMatch(c -> c < 256));
        methodsAreShort(code);
    }

    private static void methodsAreShort(String code) {
        int lines = 0;
        String name = "";
        for (String line : code.split("\n")) {
            if (line.matches("( {4}| {8})\\S.*\\) \\{")) {
                name = line.trim();
                lines = 0;
            }
            lines++;
            CHECKS.holds("short: " + name, line.isBlank() || lines < 60 || name.isEmpty());
            if (line.matches("( {4}| {8})\\}")) {
                name = "";
            }
        }
    }
}
