import java.io.IOException;
import java.lang.reflect.Field;
import java.lang.reflect.Method;
import java.lang.reflect.Modifier;
import java.nio.file.Files;
import java.nio.file.Path;
import java.util.ArrayList;
import java.util.List;
import java.util.Set;
import java.util.TreeSet;
import java.util.regex.Pattern;

/** The document's face, and those rules of LANGUAGE.md that can be read off the class and its text. */
public final class LanguageTest {
    private static final Check CHECK = new Check();
    private static final Class<?> SUBJECT = SwitchLevelSimulator.class;
    private static final Path SOURCE = Path.of("src/main/java/SwitchLevelSimulator.java");
    private static final String[] METHODS = {
        "addInput()", "addStorage(int)", "addTransistor(int, int, int, int, int)", "nodeCount()", "transistorCount()",
        "inputs()", "setInput(int, int)", "setCharge(int, int)", "forget()", "value(int)", "nodesWith(int)",
        "switchState(int)", "definiteStrength(int)", "upStrength(int)", "downStrength(int)", "steadyValue(int)",
        "vicinity(int)", "step()", "settle(int)", "active()", "period(int)", "setFault(int, int)", "clearFaults()",
        "detects(int, int, int, int)", "detectedFaults(int, int)", "save(int)", "restore(int)"};
    private static final String[] CONSTANTS = {
        "NO_SUCH_NODE=-1", "NO_SUCH_TRANSISTOR=-2", "OUT_OF_RANGE=-3", "SAME_NODE=-4", "WRONG_NODE=-5", "FULL=-6",
        "UNSTABLE=-7", "NONE=-8", "NOT_SAVED=-9", "X=2", "N=0", "P=1", "D=2", "OPEN=0", "CLOSED=1", "UNKNOWN=2",
        "NO_FAULT=0", "STUCK_OPEN=1", "STUCK_CLOSED=2"};
    private static final String[] FORBIDDEN = {
        "throw", "throws", "try", "catch", "finally", "synchronized", "assert", "import", "package", "native", "Object",
        "hashCode", "toString", "getClass", "Thread", "->", "::"};

    public static void main(String[] args) throws IOException, IllegalAccessException {
        methods();
        constants();
        nestedClasses();
        staticState();
        source();
        CHECK.finish();
    }

    private static void methods() {
        CHECK.holds("public and final", Modifier.isPublic(SUBJECT.getModifiers()) && Modifier.isFinal(SUBJECT.getModifiers()));
        CHECK.due("constructors", SUBJECT.getDeclaredConstructors().length, 1);
        CHECK.due("public constructors without parameters", SUBJECT.getConstructors()[0].getParameterCount(), 0);
        Set<String> visible = new TreeSet<>();
        Set<String> publicNames = new TreeSet<>();
        for (Method method : SUBJECT.getDeclaredMethods()) {
            if (!Modifier.isPrivate(method.getModifiers())) {
                visible.add(signature(method));
                publicNames.add(method.getName());
                CHECK.holds(method + " answers an int", method.getReturnType() == int.class);
                CHECK.holds(method + " is public", Modifier.isPublic(method.getModifiers()));
                CHECK.holds(method + " belongs to an object", !Modifier.isStatic(method.getModifiers()));
            }
        }
        CHECK.holds("the methods are those of the document: " + visible, visible.equals(new TreeSet<>(List.of(METHODS))));
        for (Method method : allMethods()) {
            boolean isPublic = Modifier.isPublic(method.getModifiers());
            CHECK.holds(method + " bears a name of its own", isPublic || !publicNames.contains(method.getName()));
            CHECK.holds(method + " has at most seven parameters", method.getParameterCount() <= 7);
        }
    }

    private static List<Method> allMethods() {
        List<Method> all = new ArrayList<>(List.of(SUBJECT.getDeclaredMethods()));
        for (Class<?> nested : SUBJECT.getDeclaredClasses()) {
            all.addAll(List.of(nested.getDeclaredMethods()));
        }
        return all;
    }

    private static String signature(Method method) {
        List<String> types = new ArrayList<>();
        for (Class<?> type : method.getParameterTypes()) {
            types.add(type.getName());
        }
        return method.getName() + "(" + String.join(", ", types) + ")";
    }

    private static void constants() throws IllegalAccessException {
        Set<String> visible = new TreeSet<>();
        for (Field field : SUBJECT.getDeclaredFields()) {
            if (!Modifier.isPrivate(field.getModifiers())) {
                CHECK.holds(field + " is public", Modifier.isPublic(field.getModifiers()));
                CHECK.holds(field + " is an int", field.getType() == int.class);
                visible.add(field.getName() + "=" + field.getInt(null));
            }
        }
        CHECK.holds("the constants are those of the document: " + visible, visible.equals(new TreeSet<>(List.of(CONSTANTS))));
    }

    private static void nestedClasses() {
        CHECK.holds("at most twelve classes", SUBJECT.getDeclaredClasses().length < 12);
        for (Class<?> nested : SUBJECT.getDeclaredClasses()) {
            CHECK.holds(nested + " is static", Modifier.isStatic(nested.getModifiers()));
            CHECK.holds(nested + " is not public", !Modifier.isPublic(nested.getModifiers()));
            CHECK.holds(nested + " has some twenty fields", nested.getDeclaredFields().length <= 20);
        }
    }

    private static void staticState() {
        List<Field> fields = new ArrayList<>(List.of(SUBJECT.getDeclaredFields()));
        for (Class<?> nested : SUBJECT.getDeclaredClasses()) {
            fields.addAll(List.of(nested.getDeclaredFields()));
        }
        for (Field field : fields) {
            boolean isStatic = Modifier.isStatic(field.getModifiers());
            CHECK.holds(field + " is no static state", !isStatic
                    || Modifier.isFinal(field.getModifiers()) && field.getType().isPrimitive());
        }
    }

    private static void source() throws IOException {
        String text = Files.readString(SOURCE);
        CHECK.holds("plain characters alone", text.chars().allMatch(c -> c == '\n' || c >= 32 && c < 127));
        String code = text.replaceAll("(?s)/\\*.*?\\*/", "").replaceAll("//[^\n]*", "");
        for (String word : FORBIDDEN) {
            String pattern = Character.isLetter(word.charAt(0)) ? "\\b" + word + "\\b" : Pattern.quote(word);
            CHECK.holds("no " + word, !Pattern.compile(pattern).matcher(code).find());
        }
        // What the forbidden words leave of the library is named with a class and a dot.
        Set<String> used = new TreeSet<>();
        var names = Pattern.compile("\\b(Math|Integer|Long|System|Arrays|String)\\.\\w+").matcher(code);
        while (names.find()) {
            used.add(names.group());
        }
        used.removeAll(Set.of("Math.max", "Integer.bitCount", "Integer.numberOfTrailingZeros", "System.arraycopy"));
        CHECK.holds("nothing else of the library: " + used, used.isEmpty());
    }
}
