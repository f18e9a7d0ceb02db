import java.lang.reflect.InvocationTargetException;
import java.lang.reflect.Method;
import java.lang.reflect.Modifier;
import java.util.ArrayList;
import java.util.Comparator;
import java.util.List;

/** The calls of the face as things, so that the class and the model can be asked the same. */
final class Calls {
    private Calls() {
    }

    /** In the order of their names, since reflection promises none. */
    static List<Method> all() {
        List<Method> calls = new ArrayList<>();
        for (Method method : ClashRocks.class.getDeclaredMethods()) {
            if (Modifier.isPublic(method.getModifiers())) {
                calls.add(method);
            }
        }
        calls.sort(Comparator.comparing(Method::getName));
        return calls;
    }

    static Method named(Class<?> type, String name) {
        for (Method method : type.getDeclaredMethods()) {
            if (method.getName().equals(name)) {
                return method;
            }
        }
        throw new IllegalArgumentException(name);
    }

    static int wanted(Model model, Method call, Object... arguments) throws ReflectiveOperationException {
        return (Integer) Model.class.getDeclaredMethod(call.getName(), call.getParameterTypes()).invoke(model, arguments);
    }

    /** The class must answer what is due, and may throw nothing. */
    static void ask(Due due, String name, int want, ClashRocks x, Method call, Object... arguments)
            throws ReflectiveOperationException {
        try {
            due.is(name, (Integer) call.invoke(x, arguments), want);
        } catch (InvocationTargetException thrown) {
            due.is(name + " threw " + thrown.getCause() + ", so it", Integer.MIN_VALUE, want);
        }
    }
}
