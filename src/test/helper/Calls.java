import java.lang.reflect.InvocationTargetException;
import java.lang.reflect.Method;
import java.util.HashMap;
import java.util.List;
import java.util.Map;
import java.util.Set;
import java.util.TreeSet;

/** Carries out calls that are written as text, such as "dig(0, 2)". */
final class Calls {
    private static final Map<String, Method> FOUND = new HashMap<>();

    private int wrong = 0;

    /** What a call answers: a number, or throws. and the name of the exception. */
    static String answer(Object target, String call) {
        try {
            return String.valueOf(invoke(target, call));
        } catch (InvocationTargetException e) {
            boolean machines = target instanceof CanalStairs && isMachines(e.getCause());
            return (machines ? "the machine " : "") + "throws." + e.getCause().getClass().getSimpleName();
        }
    }

    /** The machine's own exceptions tell of an index, a null or a division: the class's do not. */
    private static boolean isMachines(Throwable thrown) {
        String text = String.valueOf(thrown.getMessage());
        return text.equals("null") || text.startsWith("Index") || text.startsWith("Cannot")
            || text.contains("by zero");
    }

    private static Object invoke(Object target, String call) throws InvocationTargetException {
        int bracket = call.indexOf('(');
        String inside = call.substring(bracket + 1, call.length() - 1).trim();
        String[] words = inside.isEmpty() ? new String[0] : inside.split(", *");
        Object[] arguments = new Object[words.length];
        for (int i = 0; i < words.length; i++) {
            arguments[i] = argument(words[i]);
        }
        try {
            return methodOf(target.getClass(), call.substring(0, bracket)).invoke(target, arguments);
        } catch (IllegalAccessException e) {
            throw new IllegalStateException(call, e);
        }
    }

    private static Object argument(String word) {
        if (word.equals("true") || word.equals("false")) {
            return Boolean.valueOf(word);
        }
        return Integer.valueOf(word);
    }

    private static Method methodOf(Class<?> type, String name) {
        // Looking a method up is slow, and the long runs call each many thousand times.
        return FOUND.computeIfAbsent(type.getName() + "." + name, key -> lookUp(type, name));
    }

    private static Method lookUp(Class<?> type, String name) {
        for (Method method : type.getDeclaredMethods()) {
            if (method.getName().equals(name)) {
                method.setAccessible(true);
                return method;
            }
        }
        throw new IllegalStateException("no method " + name);
    }

    /** Rows "call -> answer" on a new object; one row may hold several, parted by semicolons. */
    void run(String title, String rows) {
        carryOut(title, rows);
    }

    /** One call behind rows on a new object: its answer, and all that it changes, see Snapshot. */
    void changes(String title, String rows, String call, String answer, String changes) {
        CanalStairs stairs = carryOut(title, rows);
        Snapshot before = new Snapshot(stairs);
        due(title + ": " + call, answer(stairs, call), answer);
        Set<String> found = new TreeSet<>(before.changesTo(new Snapshot(stairs)));
        Set<String> wanted = new TreeSet<>(List.of(changes.trim().split("\\s+")));
        wanted.remove("");
        due(title + ": changes by " + call, found.toString(), wanted.toString());
    }

    private CanalStairs carryOut(String title, String rows) {
        CanalStairs stairs = new CanalStairs();
        for (String row : rows.split("[;\n]")) {
            if (!row.isBlank()) {
                String[] sides = row.trim().split(" *-> *");
                String got = answer(stairs, sides[0]);
                // A row without an answer only leads up to others: any number will do.
                String want = sides.length > 1 ? sides[1] : got.matches("-?[0-9]+") ? got : "a number";
                due(title + ": " + sides[0], got, want);
            }
        }
        return stairs;
    }

    void due(String what, String got, String want) {
        if (!got.equals(want)) {
            wrong++;
            System.out.println(what + " answered " + got + ", due is " + want);
        }
    }

    void end() {
        System.out.println(wrong == 0 ? "all answers are as due" : wrong + " answers are not as due");
        if (wrong != 0) {
            System.exit(1);
        }
    }
}
