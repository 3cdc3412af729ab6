import java.lang.reflect.InvocationTargetException;
import java.lang.reflect.Method;
import java.util.HashMap;
import java.util.Map;

/** A call told by its name and numbers (a boolean is 1 or 0), to be made on DragonJars or PlainModel. */
final class Call {
    private static final Map<String, Method> METHODS = new HashMap<>();

    final String name;
    final int[] with;

    private Call(String name, int[] with) {
        this.name = name;
        this.with = with;
    }

    /** Of a text like "pillar 0 30 -1". */
    static Call of(String text) {
        String[] parts = text.trim().split(" +");
        int[] with = new int[parts.length - 1];
        for (int i = 0; i < with.length; i++) {
            with[i] = Integer.parseInt(parts[i + 1]);
        }
        return new Call(parts[0], with);
    }

    /** The same call, another number at a place. */
    Call but(int place, int value) {
        int[] other = with.clone();
        other[place] = value;
        return new Call(name, other);
    }

    long on(Object x) {
        Method method = METHODS.computeIfAbsent(x.getClass().getName() + "." + name, key -> methodOf(x));
        try {
            return ((Number) method.invoke(x, arguments(method))).longValue();
        } catch (IllegalAccessException | InvocationTargetException e) {
            throw new IllegalStateException(this + " threw", e);
        }
    }

    private Method methodOf(Object x) {
        for (Method method : x.getClass().getMethods()) {
            if (method.getName().equals(name) && method.getParameterCount() == with.length) {
                return method;
            }
        }
        throw new IllegalStateException("there is no " + this);
    }

    private Object[] arguments(Method method) {
        Object[] arguments = new Object[with.length];
        for (int i = 0; i < with.length; i++) {
            boolean asBoolean = method.getParameterTypes()[i] == boolean.class;
            arguments[i] = asBoolean ? (Object) (with[i] != 0) : (Object) with[i];
        }
        return arguments;
    }

    @Override
    public String toString() {
        StringBuilder text = new StringBuilder(name).append('(');
        for (int i = 0; i < with.length; i++) {
            text.append(i == 0 ? "" : ", ").append(with[i]);
        }
        return text.append(')').toString();
    }
}
