import java.lang.reflect.Field;
import java.lang.reflect.Method;
import java.lang.reflect.Modifier;
import java.util.Arrays;
import java.util.Map;
import java.util.TreeMap;
import java.util.TreeSet;

/** The constants and the public face of the document, with nothing beside them. */
public final class FaceTest {
    private static final String[] KINDS = {
        "LITERAL", "VARIABLE", "LAMBDA", "RECURSIVE", "APPLY", "BRANCH", "ADD", "SUBTRACT", "MULTIPLY",
        "QUOTIENT", "LESS", "EQUAL"};
    private static final String[] OUTCOMES = {
        "IDLE", "INTEGER", "FUNCTION", "EXHAUSTED", "UNBOUND", "NOT_FUNCTION", "NOT_INTEGER", "ZERO_DIVISOR"};
    private static final String[] METHODS = {
        "int add(int,int,int,int)", "void clear()", "int size()", "int kind(int)", "int part(int,int)",
        "int start(int,int)", "int supply(int)", "int demand(int)", "int outcome()", "int result()",
        "int charge()", "int allowance()", "int captured(int)"};

    public static void main(String[] args) throws IllegalAccessException {
        constants();
        methods();
        fields();
        Checks.due("the class is public and final", LazyKrivine.class.getModifiers(), Modifier.PUBLIC | Modifier.FINAL);
        Checks.same("constructors", Arrays.toString(LazyKrivine.class.getDeclaredConstructors()),
            "[public LazyKrivine(int,int)]");
        Checks.due("nested classes", LazyKrivine.class.getDeclaredClasses().length, 0);
        Checks.finish();
    }

    private static void constants() throws IllegalAccessException {
        Map<String, Integer> want = new TreeMap<>();
        want.put("REFUSED", -1);
        for (int kind = 0; kind < KINDS.length; kind++) {
            want.put(KINDS[kind], kind);
        }
        for (int outcome = 0; outcome < OUTCOMES.length; outcome++) {
            want.put(OUTCOMES[outcome], outcome);
        }
        Map<String, Integer> got = new TreeMap<>();
        for (Field field : LazyKrivine.class.getDeclaredFields()) {
            if (!Modifier.isPrivate(field.getModifiers())) {
                Checks.same(field.getName(), Modifier.toString(field.getModifiers()), "public static final");
                got.put(field.getName(), field.getInt(null));
            }
        }
        Checks.same("public constants", got.toString(), want.toString());
    }

    private static void methods() {
        TreeSet<String> got = new TreeSet<>();
        TreeSet<String> names = new TreeSet<>();
        for (Method method : LazyKrivine.class.getDeclaredMethods()) {
            if (!Modifier.isPrivate(method.getModifiers())) {
                Checks.due(method.getName() + " is only public", method.getModifiers(), Modifier.PUBLIC);
                String parameters = Arrays.toString(method.getParameterTypes());
                got.add(method.getReturnType() + " " + method.getName()
                    + parameters.replace('[', '(').replace(']', ')').replace(", ", ","));
                names.add(method.getName());
            }
        }
        Checks.same("public methods", got.toString(), new TreeSet<>(Arrays.asList(METHODS)).toString());
        for (Method method : LazyKrivine.class.getDeclaredMethods()) {
            boolean clash = Modifier.isPrivate(method.getModifiers()) && names.contains(method.getName());
            Checks.due("private " + method.getName() + " bears a public name", clash ? 1 : 0, 0);
        }
    }

    private static void fields() {
        for (Field field : LazyKrivine.class.getDeclaredFields()) {
            Class<?> type = field.getType();
            boolean plain = type.isPrimitive() || type.isArray() && type.getComponentType().isPrimitive();
            Checks.due(field.getName() + " is a number or an array of numbers", plain ? 1 : 0, 1);
            if (Modifier.isStatic(field.getModifiers())) {
                boolean constant = Modifier.isFinal(field.getModifiers()) && (type == int.class || type == long.class);
                Checks.due(field.getName() + " is a constant", constant ? 1 : 0, 1);
            }
        }
    }
}
