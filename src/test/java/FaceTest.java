import java.lang.reflect.Constructor;
import java.lang.reflect.Field;
import java.lang.reflect.Method;
import java.lang.reflect.Modifier;
import java.nio.charset.StandardCharsets;
import java.nio.file.Files;
import java.nio.file.Path;
import java.util.ArrayList;
import java.util.Arrays;
import java.util.HashSet;
import java.util.List;
import java.util.Set;
import java.util.TreeSet;

/** The class has the document's face and no other, and keeps to rules of LANGUAGE.md that can be seen. */
final class FaceTest {
    private static final Path DOCUMENT = Path.of("../shared/DOC.md");
    private static final Path SOURCE = Path.of("src/main/java/WaveUpgrade.java");
    /** The rules say "some" of these. */
    private static final int MOST_LINES = 66;
    private static final int MOST_CLASSES = 13;
    private static final int MOST_FIELDS = 22;
    private static final int MOST_PARAMETERS = 7;

    private static final Check check = new Check("FaceTest");

    public static void main(String[] args) throws Exception {
        check.same("public", Modifier.isPublic(WaveUpgrade.class.getModifiers()), true);
        check.same("final", Modifier.isFinal(WaveUpgrade.class.getModifiers()), true);
        check.sameText("the face", face().toString(), faceOfDocument().toString());
        checkNames();
        checkSizes();
        checkWords();
        check.end();
    }

    private static Set<String> face() {
        Set<String> all = new TreeSet<>();
        for (Field field : WaveUpgrade.class.getDeclaredFields()) {
            if (!Modifier.isPrivate(field.getModifiers())) {
                all.add(Modifier.toString(field.getModifiers()) + " " + field.getType() + " " + field.getName());
            }
        }
        for (Constructor<?> each : WaveUpgrade.class.getDeclaredConstructors()) {
            if (!Modifier.isPrivate(each.getModifiers())) {
                all.add(Modifier.toString(each.getModifiers()) + " new " + each.getParameterCount());
            }
        }
        for (Method method : WaveUpgrade.class.getDeclaredMethods()) {
            if (!Modifier.isPrivate(method.getModifiers()) && !method.isSynthetic()) {
                all.add(describe(method));
            }
        }
        return all;
    }

    private static String describe(Method method) {
        List<String> types = new ArrayList<>();
        for (Class<?> type : method.getParameterTypes()) {
            types.add(type.getName());
        }
        Set<String> exceptions = new TreeSet<>();
        for (Class<?> type : method.getExceptionTypes()) {
            exceptions.add(type.getSimpleName());
        }
        return Modifier.toString(method.getModifiers()) + " " + method.getReturnType().getName() + " "
                + method.getName() + types + exceptions;
    }

    private static Set<String> faceOfDocument() throws Exception {
        Set<String> all = new TreeSet<>(List.of("public static final int NONE", "public new 0"));
        for (String line : Files.readAllLines(DOCUMENT)) {
            String call = line.trim();
            int opening = call.indexOf('(');
            int closing = call.indexOf(')');
            if (line.startsWith("    public ") && opening > 0 && !call.contains("WaveUpgrade(")) {
                List<String> types = new ArrayList<>();
                for (String part : call.substring(opening + 1, closing).split(",")) {
                    if (!part.isBlank()) {
                        types.add(part.trim().split(" ")[0]);
                    }
                }
                Set<String> exceptions = new TreeSet<>();
                for (String part : call.substring(closing + 1).replace(" throws ", "").replace(";", "").split(",")) {
                    if (!part.isBlank()) {
                        exceptions.add(part.trim());
                    }
                }
                all.add(call.substring(0, opening) + types + exceptions);
            }
        }
        return all;
    }

    private static Set<Class<?>> classes() {
        Set<Class<?>> all = new HashSet<>(Arrays.asList(WaveUpgrade.class.getDeclaredClasses()));
        all.add(WaveUpgrade.class);
        return all;
    }

    private static void checkNames() {
        Set<String> names = new HashSet<>();
        for (Method method : WaveUpgrade.class.getDeclaredMethods()) {
            if (Modifier.isPublic(method.getModifiers())) {
                names.add(method.getName());
            }
        }
        for (Method method : WaveUpgrade.class.getDeclaredMethods()) {
            check.same(method.getName() + " is private and bears a name of the face",
                    Modifier.isPrivate(method.getModifiers()) && names.contains(method.getName()), false);
        }
        for (Class<?> each : classes()) {
            boolean isSeen = Modifier.isPublic(each.getModifiers()) || Modifier.isProtected(each.getModifiers());
            check.same(each + " is seen from outside", isSeen, each == WaveUpgrade.class);
        }
    }

    private static void checkSizes() throws Exception {
        check.same("classes are few", classes().size() <= MOST_CLASSES, true);
        for (Class<?> each : classes()) {
            int fields = 0;
            for (Field field : each.getDeclaredFields()) {
                fields += Modifier.isStatic(field.getModifiers()) ? 0 : 1;
            }
            check.same(each + " has few fields", fields <= MOST_FIELDS, true);
            for (Method method : each.getDeclaredMethods()) {
                check.same(method + " has few parameters", method.getParameterCount() <= MOST_PARAMETERS, true);
            }
        }
        int first = 0;
        List<String> lines = Files.readAllLines(SOURCE);
        for (int i = 0; i < lines.size(); i++) {
            String line = lines.get(i);
            boolean isMethod = line.matches("( {4}| {8})[A-Za-z].*\\) \\{|.*throws .*\\{");
            first = isMethod ? i : first;
            if (line.matches("( {4}| {8})\\}")) {
                check.same("the method at line " + (first + 1) + " is short",
                        i - first <= MOST_LINES || lines.get(first).contains("class "), true);
            }
        }
    }

    private static void checkWords() throws Exception {
        String source = Files.readString(SOURCE, StandardCharsets.ISO_8859_1);
        for (int i = 0; i < source.length(); i++) {
            if (source.charAt(i) > 127) {
                check.same("the sign at " + i, source.charAt(i), 0);
            }
        }
        String code = source.replaceAll("(?s)/\\*.*?\\*/", " ").replaceAll("//[^\n]*", " ").replaceAll("\"[^\"\n]*\"", "\"\"");
        for (String word : new String[] {"\\) *->", "::", "\\bpackage\\b", "\\bprotected\\b", "\\bsynchronized\\b", "\\bassert\\b",
            "\\bfinally\\b", "\\btry *\\(", "Exact\\b", "\\bordinal\\b", "\\bSystem\\.(?!arraycopy)", "\\bgetMessage\\b",
            "\\bhashCode\\b", "\\bMath\\.(?!(max|min|abs|floorDiv|floorMod)\\b)", "\\bThread\\b", "\\bRandom\\b",
            "catch \\((Exception|Throwable|Error|NullPointer|ArrayIndex|ClassCast|NegativeArray|ArrayStore)"}) {
            check.same("the source has " + word, java.util.regex.Pattern.compile(word).matcher(code).find(), false);
        }
        for (String line : code.split("\n")) {
            boolean isThrow = line.contains("throw ");
            check.same("a throw as rule 6 has it: " + line.trim(), isThrow && !line.trim().matches(".*throw new"
                    + " (IllegalState|IllegalArgument|IndexOutOfBounds|Arithmetic|UnsupportedOperation|NoSuchElement|Runtime)Exception"
                    + "\\((\"\")?\\);.*"), false);
        }
    }
}
