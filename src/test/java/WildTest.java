import java.lang.reflect.InvocationTargetException;
import java.lang.reflect.Method;
import java.lang.reflect.Modifier;
import java.util.ArrayList;
import java.util.Arrays;
import java.util.Comparator;
import java.util.List;

/** Wild arguments in all sorts of states: a call throws nothing but what it declares, and then changes nothing. */
final class WildTest {
    private static final int[] WILD = {Integer.MIN_VALUE, -900, -1, 0, 1, 2, 5, 8, 9, 12, 30, 31, 32, 33, 63, 255, 999, 1000,
        2000, 20000, Integer.MAX_VALUE};
    private static final Check check = new Check("WildTest");

    public static void main(String[] args) throws Exception {
        List<Method> methods = new ArrayList<>();
        for (Method method : WaveUpgrade.class.getDeclaredMethods()) {
            if (Modifier.isPublic(method.getModifiers())) {
                methods.add(method);
            }
        }
        methods.sort(Comparator.comparing(Method::getName));
        check.same("methods", methods.size(), 51 - 1);
        Dice dice = new Dice(7);
        for (int run = 0; run < 200; run++) {
            WaveUpgrade x = new WaveUpgrade();
            for (int k = 0; k < 200; k++) {
                if (dice.in(40)) {
                    wildText(dice, x);
                }
                call(dice, x, methods.get(dice.below(methods.size())));
            }
        }
        check.end();
    }

    private static void wildText(Dice dice, WaveUpgrade x) {
        x.truncate(0);
        Check.put(x, Texts.cluster(dice));
        try {
            x.readText();
        } catch (IllegalArgumentException e) {
            check.same("the code of a text that is refused", x.errorCode() > 0, true);
        }
    }

    private static void call(Dice dice, WaveUpgrade x, Method method) throws IllegalAccessException {
        Object[] arguments = new Object[method.getParameterCount()];
        for (int k = 0; k < arguments.length; k++) {
            boolean isBoolean = method.getParameterTypes()[k] == boolean.class;
            arguments[k] = isBoolean ? (Object) dice.in(2) : (Object) (dice.in(2) ? dice.below(13) : WILD[dice.below(WILD.length)]);
        }
        String before = view(x);
        boolean isAnswered = true;
        try {
            method.invoke(x, arguments);
        } catch (InvocationTargetException e) {
            isAnswered = false;
            Class<?> thrown = e.getCause().getClass();
            check.same(method.getName() + Arrays.toString(arguments) + " throws " + thrown,
                    Arrays.asList(method.getExceptionTypes()).contains(thrown), true);
        }
        boolean isChange = "pass start stop go hold report change commit runScript readText undo restore".contains(method.getName());
        if (!isAnswered || !isChange) {
            check.sameText("all behind " + method.getName() + Arrays.toString(arguments), view(x), before);
        }
    }

    /** What can be seen of a cluster without a change, but for the buffer, the error and the report. */
    private static String view(WaveUpgrade x) {
        StringBuilder all = new StringBuilder();
        for (int what = 0; what < 12; what++) {
            all.append(x.setting(what)).append(' ');
        }
        for (int what = 0; what < 5; what++) {
            all.append(x.plan(what)).append(' ');
        }
        for (int member = 0; member < x.setting(2); member++) {
            for (int what = 0; what < 7; what++) {
                all.append(x.member(member, what)).append(' ');
            }
        }
        for (int i = 0; i < x.events(); i++) {
            for (int what = 0; what < 4; what++) {
                all.append(x.event(i, what)).append(' ');
            }
        }
        return all.toString();
    }
}
