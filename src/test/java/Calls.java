import java.lang.reflect.InvocationTargetException;
import java.lang.reflect.Method;

/** Calls by name, so that a run of calls can be told, and made on SpunModules and on the model alike. */
final class Calls {
    private Calls() { }

    private static Method method(Object x, String name) {
        for (Method m : x.getClass().getDeclaredMethods()) {
            if (m.getName().equals(name)) {
                m.setAccessible(true);
                return m;
            }
        }
        throw new IllegalArgumentException(name);
    }

    static String told(String name, int... a) {
        StringBuilder s = new StringBuilder(name).append('(');
        for (int i = 0; i < a.length; i++) {
            s.append(i == 0 ? "" : ", ").append(a[i]);
        }
        return s.append(')').toString();
    }

    static long on(Object x, String name, int... a) {
        Object[] boxed = new Object[a.length];
        for (int i = 0; i < a.length; i++) {
            boxed[i] = a[i];
        }
        try {
            return ((Number) method(x, name).invoke(x, boxed)).longValue();
        } catch (InvocationTargetException e) {
            throw new IllegalStateException(told(name, a) + " threw", e.getCause());
        } catch (IllegalAccessException e) {
            throw new IllegalStateException(e);
        }
    }

    /** Makes a call such as "sizes(0, 3)". */
    static long make(Object x, String call) {
        String inside = call.substring(call.indexOf('(') + 1, call.indexOf(')')).trim();
        String[] words = inside.isEmpty() ? new String[0] : inside.split(",");
        int[] a = new int[words.length];
        for (int i = 0; i < a.length; i++) {
            a[i] = Integer.parseInt(words[i].trim());
        }
        return on(x, call.substring(0, call.indexOf('(')).trim(), a);
    }

    /** Makes the calls of a line such as "sizes(0, 3) = 3; draws(0, 5); spun(0, 1) = 3"; checks the answers given. */
    static void run(Check check, Object x, String name, String line) {
        for (String step : line.split(";")) {
            if (step.isBlank()) {
                continue;
            }
            String[] sides = step.split("=");
            long got = make(x, sides[0]);
            if (sides.length > 1) {
                check.due(name + ": " + sides[0].trim(), got, Long.parseLong(sides[1].trim()));
            }
        }
    }
}
