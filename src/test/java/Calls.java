import java.lang.reflect.InvocationTargetException;
import java.lang.reflect.Method;
import java.lang.reflect.Modifier;
import java.util.ArrayList;
import java.util.List;
import java.util.Map;
import java.util.TreeMap;

/** Calls by name, on a RobeHouse or on a PlainHouse. */
final class Calls {
    /** What a call answers with that threw: no answer of the document is this. */
    static final int THREW = Integer.MIN_VALUE;

    /** One call with its arguments. */
    static final class Call {
        final String name;
        final long[] args;

        Call(String name, long... args) {
            this.name = name;
            this.args = args;
        }

        @Override
        public String toString() {
            StringBuilder text = new StringBuilder(name).append('(');
            for (int k = 0; k < args.length; k++) {
                text.append(k > 0 ? ", " : "").append(args[k]);
            }
            return text.append(')').toString();
        }
    }

    private static final Map<String, Method> OF_HOUSE = byName(RobeHouse.class);
    private static final Map<String, Method> OF_PLAIN = byName(PlainHouse.class);

    private Calls() {
    }

    private static Map<String, Method> byName(Class<?> house) {
        Map<String, Method> methods = new TreeMap<>();
        for (Method method : house.getDeclaredMethods()) {
            int modifiers = method.getModifiers();
            if (!Modifier.isPrivate(modifiers) && !Modifier.isStatic(modifiers) && !method.isSynthetic()) {
                methods.put(method.getName(), method);
            }
        }
        return methods;
    }

    /** The document's methods. */
    static List<Method> all() {
        return new ArrayList<>(OF_HOUSE.values());
    }

    static int answer(Object house, String name, long... args) {
        return answer(house, new Call(name, args));
    }

    static int answer(Object house, Call call) {
        Method method = (house instanceof RobeHouse ? OF_HOUSE : OF_PLAIN).get(call.name);
        if (method == null || method.getParameterCount() != call.args.length) {
            throw new IllegalStateException("no method for " + call);
        }
        return invoke(house, method, call.args);
    }

    private static int invoke(Object house, Method method, long[] args) {
        Object[] given = new Object[args.length];
        for (int k = 0; k < args.length; k++) {
            if (method.getParameterTypes()[k] == long.class) {
                given[k] = args[k];
            } else {
                given[k] = (int) args[k];
            }
        }
        try {
            return (Integer) method.invoke(house, given);
        } catch (InvocationTargetException e) {
            e.getCause().printStackTrace(System.out);
            return THREW;
        } catch (IllegalAccessException e) {
            throw new IllegalStateException(e);
        }
    }
}
