import java.lang.reflect.InvocationTargetException;
import java.lang.reflect.Method;
import java.lang.reflect.Modifier;
import java.util.ArrayList;
import java.util.List;

/** Calls by name, on a RobeHouse or on a PlainHouse. */
final class Calls {
    /** What a call answers with that threw: no answer of the document is this. */
    static final int THREW = Integer.MIN_VALUE;

    /** One call with its arguments. */
    static final class Call {
        final String name;
        final long[] args;

        Call(String name, long... args) {
            this.name = name;
            this.args = args;
        }

        @Override
        public String toString() {
            StringBuilder text = new StringBuilder(name).append('(');
            for (int k = 0; k < args.length; k++) {
                text.append(k > 0 ? ", " : "").append(args[k]);
            }
            return text.append(')').toString();
        }
    }

    private static final Method[] OF_HOUSE = RobeHouse.class.getDeclaredMethods();
    private static final Method[] OF_PLAIN = PlainHouse.class.getDeclaredMethods();

    private Calls() {
    }

    /** The document's methods. */
    static List<Method> all() {
        List<Method> methods = new ArrayList<>();
        for (Method method : OF_HOUSE) {
            if (Modifier.isPublic(method.getModifiers())) {
                methods.add(method);
            }
        }
        methods.sort((a, b) -> a.getName().compareTo(b.getName()));
        return methods;
    }

    static int answer(Object house, Call call) {
        Method[] methods = house instanceof RobeHouse ? OF_HOUSE : OF_PLAIN;
        for (Method method : methods) {
            if (method.getName().equals(call.name) && method.getParameterCount() == call.args.length) {
                return answer(house, method, call.args);
            }
        }
        throw new IllegalStateException("no method for " + call);
    }

    private static int answer(Object house, Method method, long[] args) {
        Object[] given = new Object[args.length];
        for (int k = 0; k < args.length; k++) {
            if (method.getParameterTypes()[k] == long.class) {
                given[k] = args[k];
            } else {
                given[k] = (int) args[k];
            }
        }
        try {
            return (Integer) method.invoke(house, given);
        } catch (InvocationTargetException e) {
            e.getCause().printStackTrace(System.out);
            return THREW;
        } catch (IllegalAccessException e) {
            throw new IllegalStateException(e);
        }
    }
}
