import java.lang.reflect.Constructor;
import java.lang.reflect.Field;
import java.lang.reflect.Method;
import java.lang.reflect.Modifier;
import java.nio.charset.StandardCharsets;
import java.nio.file.Files;
import java.nio.file.Path;
import java.util.ArrayList;
import java.util.Arrays;
import java.util.HashSet;
import java.util.List;
import java.util.Set;
import java.util.TreeSet;

/** The class has the document's face and no other, and keeps to rules of LANGUAGE.md that can be seen. */
final class FaceTest {
    private static final Path DOCUMENT = Path.of("../shared/DOC.md");
    private static final Path SOURCE = Path.of("src/main/java/WaveUpgrade.java");
    private static final int MOST_LINES = 60;
    private static final int MOST_PARAMETERS = 7;
    private static final int MOST_CLASSES = 12;
    private static final int MOST_FIELDS = 20;

    private static final Check check = new Check("FaceTest");

    public static void main(String[] args) throws Exception {
        check.same("public", Modifier.isPublic(WaveUpgrade.class.getModifiers()), true);
        check.same("final", Modifier.isFinal(WaveUpgrade.class.getModifiers()), true);
        check.sameText("the face", face().toString(), faceOfDocument().toString());
        checkNames();
        checkSizes();
        checkWords();
        check.end();
    }

    private static Set<String> face() {
        Set<String> all = new TreeSet<>();
        for (Field field : WaveUpgrade.class.getDeclaredFields()) {
            if (!Modifier.isPrivate(field.getModifiers())) {
                all.add(Modifier.toString(field.getModifiers()) + " " + field.getType() + " " + field.getName());
            }
        }
        for (Constructor<?> each : WaveUpgrade.class.getDeclaredConstructors()) {
            if (!Modifier.isPrivate(each.getModifiers())) {
                all.add(Modifier.toString(each.getModifiers()) + " new " + each.getParameterCount());
            }
        }
        for (Method method : WaveUpgrade.class.getDeclaredMethods()) {
            if (!Modifier.isPrivate(method.getModifiers()) && !method.isSynthetic()) {
                all.add(describe(method));
            }
        }
        return all;
    }

    private static String describe(Method method) {
        List<String> types = new ArrayList<>();
        for (Class<?> type : method.getParameterTypes()) {
            types.add(type.getName());
        }
        return Modifier.toString(method.getModifiers()) + " " + method.getReturnType().getName() + " "
                + method.getName() + types;
    }

    private static Set<String> faceOfDocument() throws Exception {
        Set<String> all = new TreeSet<>(List.of("public static final int NONE", "public new 0"));
        for (String line : Files.readAllLines(DOCUMENT)) {
            String call = line.trim();
            int opening = call.indexOf('(');
            if (line.startsWith("    public ") && opening > 0 && !call.contains("WaveUpgrade(")) {
                List<String> types = new ArrayList<>();
                for (String part : call.substring(opening + 1, call.indexOf(')')).split(",")) {
                    if (!part.isBlank()) {
                        types.add(part.trim().split(" ")[0]);
                    }
                }
                all.add(call.substring(0, opening) + types);
            }
        }
        for (String each : new ArrayList<>(all)) {
            int bracket = each.indexOf('[');
            if (bracket > 0) {
                all.remove(each);
                String[] words = each.substring(0, bracket).split(" ");
                all.add(words[0] + " " + words[1] + " " + words[2] + each.substring(bracket));
            }
        }
        return all;
    }

    private static Set<Class<?>> classes() {
        Set<Class<?>> all = new HashSet<>(Arrays.asList(WaveUpgrade.class.getDeclaredClasses()));
        all.add(WaveUpgrade.class);
        return all;
    }

    private static void checkNames() {
        Set<String> names = new HashSet<>();
        for (Method method : WaveUpgrade.class.getDeclaredMethods()) {
            if (Modifier.isPublic(method.getModifiers())) {
                names.add(method.getName());
            }
        }
        for (Class<?> each : classes()) {
            for (Method method : each.getDeclaredMethods()) {
                boolean isFace = Modifier.isPublic(method.getModifiers()) && each == WaveUpgrade.class;
                check.same(each + "." + method.getName() + " bears a name of the face",
                        !isFace && names.contains(method.getName()), false);
            }
        }
    }

    private static void checkSizes() throws Exception {
        check.same("classes are few", classes().size() <= MOST_CLASSES, true);
        for (Class<?> each : classes()) {
            int fields = 0;
            for (Field field : each.getDeclaredFields()) {
                fields += Modifier.isStatic(field.getModifiers()) ? 0 : 1;
            }
            check.same(each + " has few fields", fields <= MOST_FIELDS, true);
            for (Method method : each.getDeclaredMethods()) {
                check.same(method + " has few parameters", method.getParameterCount() <= MOST_PARAMETERS, true);
            }
        }
        int first = 0;
        List<String> lines = Files.readAllLines(SOURCE);
        for (int i = 0; i < lines.size(); i++) {
            String line = lines.get(i);
            boolean isMethod = line.matches("( {4}| {8})[A-Za-z].*\\) \\{|.*throws .*\\{");
            first = isMethod ? i : first;
            if (line.matches("( {4}| {8})\\}")) {
                check.same("the method at line " + (first + 1) + " is short",
                        i - first <= MOST_LINES || lines.get(first).contains("class "), true);
            }
        }
    }

    private static void checkWords() throws Exception {
        String source = Files.readString(SOURCE, StandardCharsets.ISO_8859_1);
        for (int i = 0; i < source.length(); i++) {
            if (source.charAt(i) > 127) {
                check.same("the sign at " + i, source.charAt(i), 0);
            }
        }
        String code = source.replaceAll("(?s)/\\*.*?\\*/", " ").replaceAll("//[^\n]*", " ");
        for (String word : new String[] {"->", "::", "\\bimport\\b", "\\bpackage\\b", "\\bprotected\\b",
            "\\bsynchronized\\b", "\\bassert\\b", "\\bfinally\\b", "\\btry\\b", "\\bcatch\\b", "Exact\\b", "\\bordinal\\b",
            "\\bObject\\b", "\\bSystem\\.(?!arraycopy)", "\\bgetMessage\\b", "\\bhashCode\\b", "\\btoString\\b"}) {
            check.same("the source has " + word, java.util.regex.Pattern.compile(word).matcher(code).find(), false);
        }
        for (String line : code.split("\n")) {
            boolean isThrow = line.contains("throw new");
            check.same("a throw as rule 6 has it: " + line.trim(), isThrow && !line.trim().matches(
                    "throw new (IllegalState|IllegalArgument|IndexOutOfBounds)Exception\\(\\);"), false);
        }
    }
}
