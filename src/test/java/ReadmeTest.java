import java.lang.reflect.InvocationTargetException;
import java.lang.reflect.Method;
import java.lang.reflect.Modifier;
import java.nio.file.Files;
import java.nio.file.Path;
import java.util.Map;
import java.util.TreeMap;
import java.util.TreeSet;
import java.util.regex.Matcher;
import java.util.regex.Pattern;

/** What README.md tells: its examples, made one behind the other on one object, and its table of calls. */
final class ReadmeTest {
    private static final Path README = Path.of("README.md");
    private static final Pattern BLOCK = Pattern.compile("```java\n(.*?)```", Pattern.DOTALL);
    /** A text that is put into the buffer, perhaps of several pieces, or a call with its answer and perhaps why. */
    private static final Pattern ROW = Pattern.compile(
            "put\\(x, ((?:\"[^\"]*\"\\s*\\+?\\s*)+)\\);|x\\.(\\w+)\\(([^)]*)\\); *// *([^:\n]+)");
    private static final Check check = new Check("ReadmeTest");
    private static final Map<String, Method> calls = new TreeMap<>();

    public static void main(String[] args) throws Exception {
        for (Method method : WaveUpgrade.class.getDeclaredMethods()) {
            if (Modifier.isPublic(method.getModifiers())) {
                calls.put(method.getName(), method);
            }
        }
        String readme = Files.readString(README);
        examples(readme);
        table(readme);
        check.end();
    }

    private static void examples(String readme) throws Exception {
        WaveUpgrade x = new WaveUpgrade();
        int answers = 0;
        Matcher block = BLOCK.matcher(readme);
        while (block.find()) {
            Matcher row = ROW.matcher(block.group(1));
            while (row.find()) {
                if (row.group(1) != null) {
                    Check.put(x, row.group(1).replaceAll("\"\\s*\\+\\s*\"", "").replaceAll("\"|\\s+$", ""));
                } else {
                    String call = row.group(2) + "(" + row.group(3) + ")";
                    check.sameText(call, answer(x, row.group(2), row.group(3)), row.group(4).trim());
                    answers++;
                }
            }
        }
        check.same("there are examples", answers > 0, true);
    }

    private static String answer(WaveUpgrade x, String name, String arguments) throws Exception {
        Method method = calls.get(name);
        if (method == null) {
            return "no such call";
        }
        Object[] values = new Object[method.getParameterCount()];
        String[] texts = arguments.split(", *");
        for (int k = 0; k < values.length; k++) {
            boolean isBoolean = method.getParameterTypes()[k] == boolean.class;
            values[k] = isBoolean ? (Object) Boolean.valueOf(texts[k]) : (Object) Integer.valueOf(texts[k]);
        }
        try {
            return "" + method.invoke(x, values);
        } catch (InvocationTargetException e) {
            return e.getCause().getClass().getSimpleName();
        }
    }

    private static void table(String readme) {
        TreeSet<String> told = new TreeSet<>();
        for (String line : readme.split("\n")) {
            Matcher name = Pattern.compile("`(\\w+)`").matcher(line);
            while (line.startsWith("|") && name.find()) {
                told.add(name.group(1));
            }
        }
        check.sameText("the calls of the table", told.toString(), calls.keySet().toString());
    }
}
