import java.lang.reflect.InvocationTargetException;
import java.lang.reflect.Method;
import java.lang.reflect.Modifier;
import java.util.Arrays;
import java.util.HashMap;
import java.util.Map;

/** Calls by their names, on the class or on the model of the document. */
final class Calls {
    private static final Map<String, Method> OF_CLASS = new HashMap<>();
    private static final Map<String, Method> OF_MODEL = new HashMap<>();
    private static final int MOST_CALLS = 512;

    static {
        for (Method m : RoadSorted.class.getDeclaredMethods()) {
            if (Modifier.isPublic(m.getModifiers())) {
                OF_CLASS.put(m.getName(), m);
            }
        }
        for (Method m : Model.class.getDeclaredMethods()) {
            if (Modifier.isPublic(m.getModifiers())) {
                OF_MODEL.put(m.getName(), m);
            }
        }
    }

    private final Object target;
    private final Map<String, Method> methods;
    private int count = 0;

    private Calls(Object target, Map<String, Method> methods) {
        this.target = target;
        this.methods = methods;
    }

    static Calls ofClass() {
        return new Calls(new RoadSorted(), OF_CLASS);
    }

    static Calls ofModel() {
        return new Calls(new Model(), OF_MODEL);
    }

    /** Beyond the 512th call answers are free, so that a test which needs them is wrong itself. */
    int call(String name, int... numbers) {
        count++;
        if (count > MOST_CALLS) {
            throw new IllegalStateException("more than " + MOST_CALLS + " calls");
        }
        Object[] args = new Object[numbers.length];
        for (int i = 0; i < args.length; i++) {
            args[i] = numbers[i];
        }
        try {
            return (Integer) methods.get(name).invoke(target, args);
        } catch (IllegalAccessException | InvocationTargetException e) {
            throw new IllegalStateException(told(name, numbers), e);
        }
    }

    static String told(String name, int... numbers) {
        String row = Arrays.toString(numbers);
        return name + "(" + row.substring(1, row.length() - 1) + ")";
    }

    /** A text comes to the tape and, if it is to be read too, is a TEXT. */
    void tape(String bytes) {
        for (int i = 0; i < bytes.length(); i += 12) {
            call("feed", four(bytes, i), four(bytes, i + 4), four(bytes, i + 8));
        }
        if (bytes.length() % 12 != 0) {
            call("trim", bytes.length());
        }
    }

    int text(String bytes) {
        tape(bytes);
        return call("text");
    }

    private static int four(String bytes, int from) {
        int v = 0;
        for (int i = from; i < from + 4; i++) {
            v = v << 8 | (i < bytes.length() ? bytes.charAt(i) : ' ');
        }
        return v;
    }

    void row(int sheet, int sort, int... values) {
        call("sheet", sheet, sort, values.length);
        for (int place = 0; place < values.length; place++) {
            if (values[place] != 0) {
                call("mark", sheet, place, values[place]);
            }
        }
    }
}
