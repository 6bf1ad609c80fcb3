import java.lang.reflect.InvocationTargetException;
import java.lang.reflect.Method;
import java.lang.reflect.Modifier;
import java.util.ArrayList;
import java.util.Arrays;
import java.util.Comparator;
import java.util.List;

/**
 * Calls with any numbers in any state, 512 an object: nothing is thrown, and a second object that is
 * called alike, with another one in use between, answers alike.
 */
public final class CallsTest {
    private static final int OBJECTS = 300;
    private static final int CALLS = 512;
    private static final int[] FAR_OFF = {Integer.MIN_VALUE, Integer.MIN_VALUE + 1, -1000, -10, -9, -2, 16, 31, 32, 48, 59, 63, 64, 96,
        98, 99, 100, 255, 256, 999, 1000, 65536, 1 << 30, Integer.MAX_VALUE - 1, Integer.MAX_VALUE};
    private static long seed = 20261119L;

    private static int draw(int below) {
        seed = seed * 6364136223846793005L + 1442695040888963407L;
        return (int) ((seed >>> 33) % below);
    }

    /** Any number, oftener a small one, so that the street fills. */
    private static int number(boolean wild) {
        int luck = draw(wild ? 3 : 20);
        if (luck == 0) {
            return FAR_OFF[draw(FAR_OFF.length)];
        }
        return luck == 1 ? draw(63) - 1 : draw(draw(2) == 0 ? 4 : 10);
    }

    public static void main(String[] args) throws Exception {
        List<Method> calls = new ArrayList<>();
        for (Method m : HandbagLady.class.getDeclaredMethods()) {
            if (Modifier.isPublic(m.getModifiers())) {
                calls.add(m);
            }
        }
        calls.sort(Comparator.comparing(Method::getName));
        for (int k = 0; k < OBJECTS; k++) {
            use(k, calls);
        }
        System.out.println(OBJECTS + " objects answered " + CALLS + " calls each, alike twice");
    }

    private static void use(int object, List<Method> calls) throws Exception {
        HandbagLady x = new HandbagLady();
        HandbagLady between = new HandbagLady();
        HandbagLady same = new HandbagLady();
        boolean wild = object % 3 == 0;
        List<String> log = new ArrayList<>();
        for (int k = 0; k < CALLS; k++) {
            // Every second object has one call that comes oftener, so that what it fills gets full.
            Method m = calls.get(object % 2 == 1 && draw(4) > 0 ? object / 2 % calls.size() : draw(calls.size()));
            Object[] with = new Object[m.getParameterCount()];
            for (int p = 0; p < with.length; p++) {
                with[p] = number(wild);
            }
            log.add(m.getName() + Arrays.toString(with));
            Object answer = answer(x, m, with, log);
            answer(between, calls.get(draw(calls.size())), log);
            if (!answer.equals(answer(same, m, with, log))) {
                stop(log, "is answered " + answer + " by one object, not by the other");
            }
        }
    }

    private static void answer(HandbagLady x, Method m, List<String> log) throws Exception {
        Object[] with = new Object[m.getParameterCount()];
        for (int p = 0; p < with.length; p++) {
            with[p] = number(false);
        }
        answer(x, m, with, log);
    }

    private static Object answer(HandbagLady x, Method m, Object[] with, List<String> log) throws Exception {
        try {
            return m.invoke(x, with);
        } catch (InvocationTargetException e) {
            stop(log, "threw " + e.getCause());
            return 0;
        }
    }

    private static void stop(List<String> log, String why) {
        System.out.println(log + "\nthe last " + why);
        System.exit(1);
    }
}
