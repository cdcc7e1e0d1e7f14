import java.io.IOException;
import java.lang.reflect.Constructor;
import java.lang.reflect.Field;
import java.lang.reflect.Method;
import java.lang.reflect.Modifier;
import java.nio.charset.StandardCharsets;
import java.nio.file.Files;
import java.nio.file.Path;
import java.util.Arrays;
import java.util.List;
import java.util.Set;
import java.util.TreeSet;
import java.util.regex.Pattern;

/** The public face of the document, and the rules of the language that can be seen from outside. */
public final class FaceTest {
    private static final Checks CHECKS = new Checks("FaceTest");
    private static final String[] METHODS = {"set(int,int)", "brass(int)", "door(int,int,int,int)", "cut(int,int,int)",
        "key(int,int)", "melt(int)", "take(int)", "putDown(int)", "go(int)", "plan(int,int,int)", "dropPlan()",
        "carryPlan()", "ofDoor(int,int)", "ofKey(int,int)", "count(int)", "opens(int,int)", "chanceKeys(int)",
        "justFor(int)", "reach()", "doorsTo(int)", "planOrder(int)", "planOrders()", "mustBeLast()", "brassForPlan()",
        "put(long)", "wipe()", "fault()", "carryOut()", "undo()", "save(int)", "restore(int)"};
    private static final String[] CONSTANTS = {"NO_SUCH -1", "BAD_VALUE -2", "BAD_TEXT -3", "TOO_MANY -4",
        "NOT_POSSIBLE -5", "NONE -6", "STEP 0", "LOSS 1", "BLANK 2"};
    private static final List<String> FORBIDDEN = List.of("throw", "throws", "try", "catch", "finally", "synchronized",
        "assert", "import", "package", "->", "::", "yield", "var", "protected", "native", "volatile", "equals",
        "hashCode", "System", "Thread", "Random");

    public static void main(String[] args) throws Exception {
        theClass();
        methods();
        constants();
        privateNames();
        classesInside();
        words();
        CHECKS.finish();
    }

    private static void theClass() {
        CHECKS.due("public and final", PinHouse.class.getModifiers(), Modifier.PUBLIC | Modifier.FINAL);
        Constructor<?>[] constructors = PinHouse.class.getDeclaredConstructors();
        CHECKS.due("one constructor", constructors.length, 1);
        CHECKS.due("public", constructors[0].getModifiers(), Modifier.PUBLIC);
        CHECKS.due("without parameters", constructors[0].getParameterCount(), 0);
    }

    private static void methods() {
        Set<String> found = new TreeSet<>();
        for (Method method : PinHouse.class.getDeclaredMethods()) {
            if (Modifier.isPrivate(method.getModifiers())) continue;
            StringBuilder text = new StringBuilder(method.getName()).append('(');
            for (Class<?> parameter : method.getParameterTypes()) text.append(parameter).append(',');
            if (text.charAt(text.length() - 1) == ',') text.setLength(text.length() - 1);
            found.add(text.append(')').toString());
            CHECKS.due(text + " is public", method.getModifiers(), Modifier.PUBLIC);
            CHECKS.isTrue(text + " returns an int", method.getReturnType() == int.class);
        }
        CHECKS.isTrue("methods " + found, found.equals(new TreeSet<>(Arrays.asList(METHODS))));
    }

    private static void constants() throws IllegalAccessException {
        Set<String> found = new TreeSet<>();
        for (Field field : PinHouse.class.getDeclaredFields()) {
            if (Modifier.isPrivate(field.getModifiers())) continue;
            CHECKS.due(field + " is a constant", field.getModifiers(), Modifier.PUBLIC | Modifier.STATIC | Modifier.FINAL);
            found.add(field.getName() + " " + field.getInt(null));
        }
        CHECKS.isTrue("constants " + found, found.equals(new TreeSet<>(Arrays.asList(CONSTANTS))));
    }

    private static void privateNames() {
        Set<String> names = new TreeSet<>();
        for (String method : METHODS) names.add(method.substring(0, method.indexOf('(')));
        for (Method method : PinHouse.class.getDeclaredMethods()) noPublicName(method, names);
        for (Class<?> inside : PinHouse.class.getDeclaredClasses()) {
            for (Method method : inside.getDeclaredMethods()) noPublicName(method, names);
        }
    }

    private static void noPublicName(Method method, Set<String> names) {
        boolean isFace = method.getDeclaringClass() == PinHouse.class && Modifier.isPublic(method.getModifiers());
        CHECKS.isTrue(method + " has a name of its own", isFace || !names.contains(method.getName()));
        CHECKS.isTrue(method + " has seven parameters at most", method.getParameterCount() <= 7);
    }

    private static void classesInside() {
        Class<?>[] inside = PinHouse.class.getDeclaredClasses();
        CHECKS.isTrue("twelve classes at most", inside.length + 1 <= 12);
        for (Class<?> one : inside) {
            int modifiers = one.getModifiers();
            CHECKS.isTrue(one + " is static", Modifier.isStatic(modifiers));
            CHECKS.isTrue(one + " is hidden", !Modifier.isPublic(modifiers) && !Modifier.isProtected(modifiers));
            for (Field field : one.getDeclaredFields()) staticIsFinal(field);
        }
        for (Field field : PinHouse.class.getDeclaredFields()) staticIsFinal(field);
    }

    private static void staticIsFinal(Field field) {
        int modifiers = field.getModifiers();
        CHECKS.isTrue(field + " is final if static", !Modifier.isStatic(modifiers) || Modifier.isFinal(modifiers));
    }

    private static void words() throws IOException {
        String source = Files.readString(Path.of("src/main/java/PinHouse.java"), StandardCharsets.UTF_8);
        CHECKS.isTrue("plain signs alone", source.chars().allMatch(sign -> sign < 127));
        String code = Pattern.compile("/\\*.*?\\*/|//[^\\n]*|'(\\\\.|[^'])'", Pattern.DOTALL).matcher(source).replaceAll(" ");
        for (String word : FORBIDDEN) {
            String pattern = Character.isLetter(word.charAt(0)) ? "\\b" + word + "\\b" : Pattern.quote(word);
            CHECKS.isTrue("no '" + word + "'", !Pattern.compile(pattern).matcher(code).find());
        }
        int depth = 0;
        int from = 0;
        String[] lines = source.split("\n");
        for (int line = 0; line < lines.length; line++) {
            int before = depth;
            for (char sign : lines[line].replaceAll("'.'", "").toCharArray()) {
                if (sign == '{') depth++;
                if (sign == '}') depth--;
            }
            if (depth > before && depth <= 3) from = line;
            boolean ended = depth < before && lines[line].matches(" {4}( {4})?\\}");
            if (ended && before == 3) CHECKS.isTrue("short method at line " + (from + 1), line - from <= 60);
        }
        CHECKS.due("braces", depth, 0);
    }
}
