import java.lang.reflect.InvocationTargetException;
import java.lang.reflect.Method;
import java.lang.reflect.Modifier;
import java.util.ArrayList;
import java.util.Arrays;
import java.util.Comparator;
import java.util.List;

/**
 * Wild arguments in all sorts of states: a call throws nothing but what it declares, and then changes nothing.
 * The state is made twice, so that no object is used for more than 512 calls.
 */
final class WildTest {
    private static final int RUNS = 1500;
    private static final int MOST_CALLS = 120;
    private static final int[] WILD = {Integer.MIN_VALUE, -900, -1, 0, 1, 2, 5, 8, 9, 12, 30, 31, 32, 33, 63, 255, 999, 1000,
        2000, 20000, Integer.MAX_VALUE};
    private static final String CHANGES = "feed truncate readText runScript pass start stop go hold report change commit undo restore";
    private static final Check check = new Check("WildTest");

    private record Wild(Method method, Object[] arguments) {
        /** What was thrown; null if it answered. */
        Throwable on(WaveUpgrade x) throws IllegalAccessException {
            try {
                method.invoke(x, arguments);
                return null;
            } catch (InvocationTargetException e) {
                return e.getCause();
            }
        }

        @Override
        public String toString() {
            return method.getName() + Arrays.toString(arguments);
        }
    }

    public static void main(String[] args) throws Exception {
        List<Method> methods = new ArrayList<>();
        for (Method method : WaveUpgrade.class.getDeclaredMethods()) {
            if (Modifier.isPublic(method.getModifiers())) {
                methods.add(method);
            }
        }
        methods.sort(Comparator.comparing(Method::getName));
        check.same("methods", methods.size(), 50);
        for (int seed = 1; seed <= RUNS; seed++) {
            run(new Dice(seed), methods);
        }
        check.end();
    }

    /** Many wild calls; the last one is looked at more closely, and is one that is refused if there is one. */
    private static void run(Dice dice, List<Method> methods) throws Exception {
        String text = goodText(dice);
        List<Wild> calls = new ArrayList<>();
        WaveUpgrade x = Check.cluster(text);
        boolean isQuiet = false;
        for (int k = 0; k < MOST_CALLS && !(k > 20 && isQuiet && dice.in(8)); k++) {
            Wild call = wild(dice, methods.get(dice.below(methods.size())));
            calls.add(call);
            Throwable thrown = call.on(x);
            isQuiet = thrown != null || !CHANGES.contains(call.method.getName());
            check.same(call + " throws " + thrown, thrown == null
                    || Arrays.asList(call.method.getExceptionTypes()).contains(thrown.getClass()), true);
        }
        WaveUpgrade before = Check.cluster(text);
        for (Wild call : calls.subList(0, calls.size() - 1)) {
            call.on(before);
        }
        if (isQuiet) {
            check.sameText("all behind " + calls.get(calls.size() - 1), view(x), view(before));
        }
    }

    /** A text that has no error and some member. */
    private static String goodText(Dice dice) {
        for (int k = 0; k < 100; k++) {
            String text = Texts.cluster(dice);
            WaveUpgrade x = new WaveUpgrade();
            if (Check.errorOf(x, text, false).equals("0@-1") && x.setting(2) > 0) {
                return text;
            }
        }
        return "";
    }

    private static Wild wild(Dice dice, Method method) {
        Object[] arguments = new Object[method.getParameterCount()];
        for (int k = 0; k < arguments.length; k++) {
            boolean isBoolean = method.getParameterTypes()[k] == boolean.class;
            int number = dice.in(2) ? dice.below(13) : WILD[dice.below(WILD.length)];
            arguments[k] = isBoolean ? (Object) dice.in(2) : (Object) number;
        }
        return new Wild(method, arguments);
    }

    /** What can be seen of a cluster without a change, but for the buffer, the error and the report. */
    private static String view(WaveUpgrade x) {
        StringBuilder all = new StringBuilder();
        for (int what = 0; what < 12; what++) {
            all.append(x.setting(what)).append(' ');
        }
        for (int what = 0; what < 5; what++) {
            all.append(x.plan(what)).append(' ');
        }
        for (int member = 0; member < x.setting(2); member++) {
            for (int what = 0; what < 7; what++) {
                all.append(x.member(member, what)).append(' ');
            }
        }
        for (int i = 0; i < x.events(); i++) {
            for (int what = 0; what < 4; what++) {
                all.append(x.event(i, what)).append(' ');
            }
        }
        return all.toString();
    }
}
