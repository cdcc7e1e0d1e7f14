import java.io.IOException;
import java.nio.charset.StandardCharsets;
import java.nio.file.Files;
import java.nio.file.Path;
import java.util.ArrayList;
import java.util.LinkedHashMap;
import java.util.List;
import java.util.Map;
import java.util.regex.Matcher;
import java.util.regex.Pattern;

/** Rules 8 and 11 of LANGUAGE.md, by the text of the program: no method comes to itself, and calls go eight deep at most. */
public final class CallsTest {
    private static final Checks CHECKS = new Checks("CallsTest");
    private static final int MOST_DEEP = 8;
    private static final Pattern CLASS = Pattern.compile(" *(?:public |static |private |final )*class (\\w+) \\{");
    private static final Pattern METHOD = Pattern.compile("( {4}| {8})(?! )(?:[\\w\\[\\]]+ )*(\\w+)\\([^()]*\\) \\{");
    private static final Pattern CALL = Pattern.compile("(new |\\.)?\\b(\\w+)\\(");

    // By "Class.method": the lines of the method.
    private final Map<String, StringBuilder> bodies = new LinkedHashMap<>();
    private final Map<String, Integer> deep = new LinkedHashMap<>();

    public static void main(String[] args) throws IOException {
        CallsTest test = new CallsTest();
        test.read(Files.readString(Path.of("src/main/java/PinHouse.java"), StandardCharsets.UTF_8));
        CHECKS.isTrue("the methods are found", test.bodies.containsKey("PinHouse.restore")
            && test.bodies.containsKey("PinHouse.recorded") && test.bodies.containsKey("PlanSearch.leastNext"));
        for (String method : test.bodies.keySet()) {
            int calls = test.deepFrom(method, new ArrayList<>());
            CHECKS.isTrue(method + " goes " + calls + " deep", calls <= MOST_DEEP);
        }
        CHECKS.finish();
    }

    private void read(String source) {
        String owner = "";
        StringBuilder body = new StringBuilder();
        for (String line : source.replaceAll("//[^\n]*", "").split("\n")) {
            Matcher type = CLASS.matcher(line);
            Matcher method = METHOD.matcher(line);
            if (type.matches()) {
                owner = type.group(1);
                body = new StringBuilder();
            } else if (method.matches()) {
                body = new StringBuilder();
                bodies.put(owner + "." + method.group(2), body);
            } else {
                body.append(line).append('\n');
            }
        }
    }

    /** How many calls stand open at most when a method runs, its own one too. */
    private int deepFrom(String method, List<String> open) {
        if (deep.containsKey(method)) return deep.get(method);
        List<String> way = new ArrayList<>(open);
        way.add(method);
        CHECKS.isTrue("no way back to itself: " + way, !open.contains(method));
        if (open.contains(method)) return MOST_DEEP + 1;
        int most = 0;
        for (String called : calledBy(method)) most = Math.max(most, deepFrom(called, way));
        deep.put(method, most + 1);
        return most + 1;
    }

    /** A name behind a point can be a method of each class, but of the caller's only if it is not the caller's own name. */
    private List<String> calledBy(String method) {
        int point = method.indexOf('.');
        List<String> called = new ArrayList<>();
        Matcher call = CALL.matcher(bodies.get(method));
        while (call.find()) {
            for (String other : bodies.keySet()) {
                boolean named = other.endsWith("." + call.group(2));
                boolean inside = other.startsWith(method.substring(0, point + 1));
                boolean meant = call.group(1) == null ? inside : !other.equals(method);
                if ("new ".equals(call.group(1))) meant = other.equals(call.group(2) + "." + call.group(2));
                if (named && meant) called.add(other);
            }
        }
        return called;
    }
}
