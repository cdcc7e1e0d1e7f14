import java.io.IOException;
import java.lang.reflect.Method;
import java.lang.reflect.Modifier;
import java.nio.charset.StandardCharsets;
import java.nio.file.Files;
import java.nio.file.Path;
import java.util.HashSet;
import java.util.Set;
import java.util.regex.Matcher;
import java.util.regex.Pattern;

/** The calls of README.md answer what is written behind them, and all methods are named in it. */
public final class ReadmeTest {
    private static final Checks CHECKS = new Checks("ReadmeTest");
    private static final Pattern CALL = Pattern.compile("house\\.(\\w+)\\(([-\\d, ]*)\\); +// (-?\\d+):");

    public static void main(String[] args) throws IOException, ReflectiveOperationException {
        String text = Files.readString(Path.of("README.md"), StandardCharsets.UTF_8);
        CHECKS.isTrue("there are calls with answers", calls(text) > 9);
        for (Method method : PinHouse.class.getDeclaredMethods()) {
            boolean named = !Modifier.isPublic(method.getModifiers())
                || text.contains("`" + method.getName() + "`");
            CHECKS.isTrue(method.getName() + " is named", named);
        }
        testsAreNamed(text);
        CHECKS.finish();
    }

    private static int calls(String text) throws ReflectiveOperationException {
        PinHouse house = new PinHouse();
        Matcher call = CALL.matcher(text);
        int many = 0;
        while (call.find()) {
            String[] numbers = call.group(2).isEmpty() ? new String[0] : call.group(2).split(", ");
            Class<?>[] types = new Class<?>[numbers.length];
            Object[] values = new Object[numbers.length];
            for (int place = 0; place < numbers.length; place++) {
                types[place] = int.class;
                values[place] = Integer.valueOf(numbers[place]);
            }
            Object answer = PinHouse.class.getMethod(call.group(1), types).invoke(house, values);
            CHECKS.due(call.group(1) + "(" + call.group(2) + ")", (Integer) answer, Integer.parseInt(call.group(3)));
            many++;
        }
        return many;
    }

    private static void testsAreNamed(String text) throws IOException {
        Set<String> names = new HashSet<>();
        try (var files = Files.list(Path.of("src/test/java"))) {
            files.forEach(file -> names.add(file.getFileName().toString().replace(".java", "")));
        }
        for (String name : names) {
            if (name.endsWith("Test")) CHECKS.isTrue(name + " is in the table", text.contains("| " + name + " |"));
        }
    }
}
