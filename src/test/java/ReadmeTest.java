import java.lang.reflect.InvocationTargetException;
import java.lang.reflect.Method;
import java.lang.reflect.Modifier;
import java.util.HashMap;
import java.util.Map;
import java.util.regex.Matcher;
import java.util.regex.Pattern;

/** README.md tells no wrong answer and leaves out no method. */
final class ReadmeTest {
    private static final Pattern CALL = Pattern.compile("archive\\.(\\w+)\\(([-0-9, ]*)\\);\\s+// (throws )?([^ ,]+).*");
    private static final Pattern TEXT = Pattern.compile("for \\(char c : \"(.*)\"\\.toCharArray\\(\\)\\) \\{");

    private ReadmeTest() {
    }

    private static Map<String, Method> methods() {
        Map<String, Method> methods = new HashMap<>();
        for (Method method : SkipArchive.class.getDeclaredMethods()) {
            if (Modifier.isPublic(method.getModifiers())) {
                methods.put(method.getName(), method);
            }
        }
        return methods;
    }

    private static Object[] numbers(String arguments) {
        if (arguments.isEmpty()) {
            return new Object[0];
        }
        String[] texts = arguments.split(", ");
        Object[] numbers = new Object[texts.length];
        for (int i = 0; i < texts.length; i++) {
            numbers[i] = Integer.valueOf(texts[i]);
        }
        return numbers;
    }

    private static String answer(SkipArchive archive, Method method, Object[] arguments) {
        try {
            Object answer = method.invoke(archive, arguments);
            return answer instanceof Character ? "'" + answer + "'" : answer.toString();
        } catch (InvocationTargetException e) {
            return "throws " + e.getCause().getClass().getSimpleName();
        } catch (IllegalAccessException e) {
            throw new AssertionError(e);
        }
    }

    static void theExampleAnswersAsItSays() {
        Matcher block = Pattern.compile("(?s)```java\n(.*?)```").matcher(FaceTest.read("README.md"));
        Check.same(true, block.find());
        SkipArchive archive = new SkipArchive();
        Map<String, Method> methods = methods();
        int calls = 0;
        for (String row : block.group(1).split("\n")) {
            Matcher text = TEXT.matcher(row);
            if (text.matches()) {
                Check.appendAll(archive, text.group(1));
            }
            Matcher call = CALL.matcher(row);
            if (call.matches()) {
                calls++;
                String due = (call.group(3) == null ? "" : call.group(3)) + call.group(4);
                Check.same(due, answer(archive, methods.get(call.group(1)), numbers(call.group(2))));
            } else {
                Check.same(false, row.contains("//"));
            }
        }
        Check.same(20, calls);
    }

    static void everyMethodIsNamed() {
        String page = FaceTest.read("README.md").replaceAll("(?s)```.*?```", "");
        for (String name : methods().keySet()) {
            if (!page.contains("`" + name + "`")) {
                Check.fault("README.md does not name " + name);
            }
        }
    }
}
