import java.lang.reflect.Field;
import java.lang.reflect.Method;
import java.lang.reflect.Modifier;
import java.util.Arrays;
import java.util.List;
import java.util.Map;
import java.util.TreeMap;
import java.util.TreeSet;

/** The public face is the document's, with what each method is declared to throw, and no more. */
public final class FaceTest {
    private static final String OUTSIDE = "ArrayIndexOutOfBoundsException";
    private static final String WRONG = "IllegalArgumentException";
    private static final String MISSING = "NullPointerException";
    private static final String WORN = "IllegalStateException";
    private static final String STUCK = "UnsupportedOperationException";
    private static final String SLOW = "ArithmeticException";

    private static final Calls CALLS = new Calls();

    public static void main(String[] args) {
        CALLS.due("the class", Modifier.toString(CanalStairs.class.getModifiers()), "public final");
        CALLS.due("constructors", Arrays.toString(CanalStairs.class.getDeclaredConstructors()),
            "[public CanalStairs()]");
        CALLS.due("NONE", "" + CanalStairs.NONE, "-1");
        fields();
        methods();
        CALLS.end();
    }

    private static void fields() {
        for (Field field : CanalStairs.class.getDeclaredFields()) {
            boolean isPrivate = Modifier.isPrivate(field.getModifiers());
            CALLS.due(field + " is private", "" + isPrivate, "" + !field.getName().equals("NONE"));
        }
    }

    private static void methods() {
        Map<String, List<String>> due = due();
        TreeSet<String> found = new TreeSet<>();
        List<String> names = due.keySet().stream().map(face -> face.replaceAll("int (\\w+).*", "$1")).toList();
        for (Method method : CanalStairs.class.getDeclaredMethods()) {
            String face = method.getReturnType() + " " + method.getName()
                + Arrays.toString(method.getParameterTypes());
            List<String> thrown = due.get(face);
            CALLS.due(face, Modifier.toString(method.getModifiers() & ~Modifier.STATIC),
                thrown == null ? "private" : "public");
            boolean borrowed = thrown == null && names.contains(method.getName());
            CALLS.due(face + " bears the name of a public method", "" + borrowed, "false");
            if (thrown != null) {
                found.add(face);
                List<String> declared =
                    Arrays.stream(method.getExceptionTypes()).map(Class::getSimpleName).toList();
                CALLS.due(face + " throws", declared.toString(), thrown.toString());
            }
        }
        CALLS.due("methods", found.toString(), due.keySet().toString());
    }

    private static Map<String, List<String>> due() {
        Map<String, List<String>> due = new TreeMap<>();
        due.put("int dig[int, int]", List.of(OUTSIDE, WRONG));
        due.put("int fill[int]", List.of(OUTSIDE, MISSING));
        due.put("int pour[int, int]", List.of(OUTSIDE, WRONG, MISSING));
        due.put("int draw[int, int]", List.of(OUTSIDE, WRONG, MISSING));
        due.put("int boat[int, int, int]", List.of(OUTSIDE, WRONG, MISSING, STUCK));
        due.put("int gate[int, int]", List.of(OUTSIDE, WRONG));
        due.put("int level[int]", List.of(OUTSIDE, MISSING, WORN, SLOW));
        due.put("int pass[int, boolean]", List.of(OUTSIDE, MISSING, WORN, STUCK, SLOW));
        due.put("int flight[int, int]", List.of(OUTSIDE, MISSING, WORN, STUCK, SLOW));
        due.put("int trip[int, int]", List.of(OUTSIDE));
        due.put("int convoy[int, boolean]", List.of(WRONG));
        due.put("int share[int, int]", List.of(OUTSIDE, WRONG, MISSING));
        due.put("int first[int]", List.of());
        due.put("int pool[int, int]", List.of(OUTSIDE, MISSING));
        due.put("int where[int]", List.of(OUTSIDE));
        due.put("int told[int]", List.of());
        due.put("int clear[]", List.of());
        return due;
    }
}
