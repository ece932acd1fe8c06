import java.lang.reflect.InvocationTargetException;
import java.lang.reflect.Method;
import java.util.HashMap;
import java.util.Map;

/** Carries out calls that are written as text, such as "dig(0, 2)". */
final class Calls {
    private static final Map<String, Method> FOUND = new HashMap<>();

    private int wrong = 0;

    /** What a call answers: a number, or throws. and the name of the exception. */
    static String answer(Object target, String call) {
        try {
            return String.valueOf(invoke(target, call));
        } catch (InvocationTargetException e) {
            boolean machines = target instanceof CanalStairs && isMachines(e.getCause());
            return (machines ? "the machine " : "") + "throws." + e.getCause().getClass().getSimpleName();
        }
    }

    /** The machine's own exceptions tell of an index, a null or a division: the class's do not. */
    private static boolean isMachines(Throwable thrown) {
        String text = String.valueOf(thrown.getMessage());
        return text.equals("null") || text.startsWith("Index") || text.startsWith("Cannot")
            || text.contains("by zero");
    }

    private static Object invoke(Object target, String call) throws InvocationTargetException {
        int bracket = call.indexOf('(');
        String inside = call.substring(bracket + 1, call.length() - 1).trim();
        String[] words = inside.isEmpty() ? new String[0] : inside.split(", *");
        Object[] arguments = new Object[words.length];
        for (int i = 0; i < words.length; i++) {
            arguments[i] = argument(words[i]);
        }
        try {
            return methodOf(target.getClass(), call.substring(0, bracket)).invoke(target, arguments);
        } catch (IllegalAccessException e) {
            throw new IllegalStateException(call, e);
        }
    }

    private static Object argument(String word) {
        if (word.equals("true") || word.equals("false")) {
            return Boolean.valueOf(word);
        }
        return Integer.valueOf(word);
    }

    private static Method methodOf(Class<?> type, String name) {
        // Looking a method up is slow, and the long runs call each many thousand times.
        return FOUND.computeIfAbsent(type.getName() + "." + name, key -> lookUp(type, name));
    }

    private static Method lookUp(Class<?> type, String name) {
        for (Method method : type.getDeclaredMethods()) {
            if (method.getName().equals(name)) {
                method.setAccessible(true);
                return method;
            }
        }
        throw new IllegalStateException("no method " + name);
    }

    /** Rows "call -> answer" on a new object; one row may hold several, parted by semicolons. */
    void run(String title, String rows) {
        CanalStairs stairs = new CanalStairs();
        for (String row : rows.split("[;\n]")) {
            if (!row.isBlank()) {
                String[] sides = row.trim().split(" *-> *");
                due(title + ": " + sides[0], answer(stairs, sides[0]), sides[1]);
            }
        }
    }

    void due(String what, String got, String want) {
        if (!got.equals(want)) {
            wrong++;
            System.out.println(what + " answered " + got + ", due is " + want);
        }
    }

    void end() {
        System.out.println(wrong == 0 ? "all answers are as due" : wrong + " answers are not as due");
        if (wrong != 0) {
            System.exit(1);
        }
    }
}
