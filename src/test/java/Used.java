import java.lang.reflect.InvocationHandler;
import java.lang.reflect.InvocationTargetException;
import java.lang.reflect.Method;
import java.lang.reflect.Proxy;
import java.util.ArrayList;
import java.util.HashMap;
import java.util.List;
import java.util.Map;

/**
 * An object and the way it went, 512 calls at most: ../shared/DOC.md promises nothing behind them. What it looks like
 * is asked of others that go the same way, as many as it takes, so that a look costs it no call.
 */
final class Used implements InvocationHandler, Asked {
    static final int CALLS_MOST = 512;
    private static final int REFUSALS = 5;
    private static final Map<String, Method> METHODS = methods();

    private record Call(String name, Object[] numbers) {
    }

    private final VeilsOfTheView x = new VeilsOfTheView();
    private final List<Call> way = new ArrayList<>();

    /** A new object, to be called as if nothing stood between. */
    static Face face() {
        return (Face) Proxy.newProxyInstance(Face.class.getClassLoader(), new Class<?>[] {Face.class}, new Used());
    }

    static Used behind(Face face) {
        return (Used) Proxy.getInvocationHandler(face);
    }

    static boolean knows(String name) {
        return METHODS.containsKey(name);
    }

    @Override
    public Object invoke(Object face, Method method, Object[] numbers) {
        return call(new Call(method.getName(), numbers == null ? new Object[0] : numbers));
    }

    @Override
    public long ask(String name, long... numbers) {
        Class<?>[] types = METHODS.get(name).getParameterTypes();
        Object[] given = new Object[numbers.length];
        for (int i = 0; i < given.length; i++) {
            boolean isLong = i < types.length && types[i] == long.class;
            given[i] = isLong ? (Object) numbers[i] : (Object) Math.toIntExact(numbers[i]);
        }
        return call(new Call(name, given)).longValue();
    }

    private Number call(Call call) {
        if (!hasRoomFor(1)) {
            throw new IllegalStateException("no object is used for more than " + CALLS_MOST + " calls");
        }
        way.add(call);
        try {
            return (Number) METHODS.get(call.name()).invoke(x, call.numbers());
        } catch (IllegalAccessException | InvocationTargetException thrown) {
            throw new IllegalStateException(call.name() + " has thrown", thrown);
        }
    }

    boolean hasRoomFor(int more) {
        return way.size() + more <= CALLS_MOST;
    }

    private Used again() {
        Used other = new Used();
        way.forEach(other::call);
        return other;
    }

    long[] refusals() {
        Others others = new Others();
        long[] counts = new long[REFUSALS];
        for (int i = 0; i < REFUSALS; i++) {
            counts[i] = others.ask("status", 12 + i);
        }
        return counts;
    }

    /** There must be room for one call, or it can't be looked at. */
    String look() {
        return Asked.look(new Others());
    }

    /** The next one that went the same way takes over where there is no room left. */
    private final class Others implements Asked {
        private Used other = again();

        @Override
        public long ask(String name, long... numbers) {
            if (!other.hasRoomFor(1)) {
                other = again();
            }
            return other.ask(name, numbers);
        }
    }

    private static Map<String, Method> methods() {
        Map<String, Method> found = new HashMap<>();
        for (Method method : VeilsOfTheView.class.getMethods()) {
            if (method.getDeclaringClass() == VeilsOfTheView.class) {
                found.put(method.getName(), method);
            }
        }
        return found;
    }
}
