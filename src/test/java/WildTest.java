import java.lang.reflect.InvocationTargetException;
import java.lang.reflect.Method;
import java.lang.reflect.Modifier;
import java.util.ArrayList;
import java.util.List;

/**
 * Each call with arguments from everywhere, in unlike states: none may throw (rule 7 of the
 * language), and what asks alone (it is no deed and tells nothing) must change nothing.
 */
public final class WildTest extends Sentences {
    private static final int[] MANY = {LEAST, LEAST + 1, -1000, -101, -15, -11, -2, -1, 0, 1, 2, 3, 4, 5, 6, 7, 8, 9, 10, 11, 12, 13, 20,
        21, 40, 49, 50, 59, 60, 61, 63, 64, 99, 100, 101, 119, 120, 121, 127, 128, 209, 210, 255, 256, 3030, 3031, 32768, 65536,
        MOST / 3, MOST / 3 + 1, MOST - 59, MOST - 1, MOST};
    private static final int[] SOME = {LEAST, -1, 0, 1, 2, 5, 6, 12, 20, 21, 60, MOST};
    private static final int[] FEW = {LEAST, -1, 0, 1, 3, 60, MOST};
    private static final String ASKING = " of odds later evening round cleanest pay mean stays hands test enough honest dowry richest behind"
        + " drawn led trace element taken count ";

    private static int called;
    private static int wrong;

    private static void fault(String what) {
        wrong++;
        if (wrong < 20) System.out.println(what);
    }

    private static RefusedOnce state(int which) {
        RefusedOnce x = new RefusedOnce();
        if (which == 0) return x;
        int people = which == 1 ? 1 : which == 2 ? 3 : 6;
        for (int i = 0; i < people; i++) {
            x.person(which == 3 ? 20 : 3 * i + 1);
            x.mend(i, 1, which == 3 ? 20 : 4 * i);
            x.mend(i, 3, 2 * i);
            x.mend(i, 2, 12 - 2 * i);
        }
        bytes(x, 0, 2, 20, 3, 21, 4, 44, 45, 2, 2, 2);
        bytes(x, 1, 0, 1, 1, 2, 2, 0, 0, 2, 2, 1);
        x.row(2, 3, 60);
        for (int i = 0; i < 8; i++) x.body(i);
        x.keep(3, 5);
        x.row(4, 4, 0);
        x.image();
        x.undo();
        x.act(5, 3, 1);
        if (which == 3) law(x, "p*w-c%(h-11)?12/n;1");
        x.feed('p');
        return x;
    }

    private static Object[] arguments(Method method, int[] values, int number) {
        Class<?>[] types = method.getParameterTypes();
        Object[] all = new Object[types.length];
        int rest = number;
        for (int i = 0; i < types.length; i++) {
            int v = values[rest % values.length];
            rest /= values.length;
            if (types[i] == long.class) all[i] = (long) v * 4294967297L;
            else all[i] = v;
        }
        return all;
    }

    private static void wild(Method method, int which) throws IllegalAccessException {
        int count = method.getParameterCount();
        int[] values = count < 3 ? MANY : count < 4 ? SOME : FEW;
        int all = 1;
        for (int i = 0; i < count; i++) all *= values.length;
        boolean asks = ASKING.contains(" " + method.getName() + " ");
        String want = picture(state(which));
        RefusedOnce x = state(which);
        for (int i = 0; i < all; i++) {
            // What an object answers behind its 512th call is free.
            if (i % 150 == 149) {
                if (asks && !picture(x).equals(want)) fault(method.getName() + " changed something");
                x = state(which);
            }
            Object[] arguments = arguments(method, values, i);
            called++;
            try {
                method.invoke(x, arguments);
            } catch (InvocationTargetException thrown) {
                fault(method.getName() + List.of(arguments) + " threw " + thrown.getCause());
            }
        }
        if (asks && !picture(x).equals(want)) fault(method.getName() + " changed something");
    }

    public static void main(String[] args) throws IllegalAccessException {
        List<Method> calls = new ArrayList<>();
        for (Method each : RefusedOnce.class.getDeclaredMethods()) {
            if (Modifier.isPublic(each.getModifiers())) calls.add(each);
        }
        for (Method each : calls) {
            for (int which = 0; which < 4; which++) wild(each, which);
        }
        System.out.println(calls.size() + " calls, " + called + " times, " + wrong + " wrong");
        if (wrong != 0 || calls.size() != 40) System.exit(1);
    }
}
