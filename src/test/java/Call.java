import java.lang.reflect.InvocationTargetException;
import java.lang.reflect.Method;
import java.util.ArrayList;
import java.util.HashMap;
import java.util.List;
import java.util.Map;

/** A call told as a text, its name and then its numbers (loose's second one: 0, 1); for HillLand and the Model alike. */
record Call(String name, long... numbers) {
    private static final Map<String, Method> METHODS = new HashMap<>();

    static Call of(String text) {
        String[] parts = text.trim().split(" +");
        long[] numbers = new long[parts.length - 1];
        for (int i = 0; i < numbers.length; i++) numbers[i] = Long.parseLong(parts[i + 1]);
        return new Call(parts[0], numbers);
    }

    static List<Call> all(List<String> texts) {
        List<Call> calls = new ArrayList<>();
        for (String text : texts) calls.add(of(text));
        return calls;
    }

    Call with(int place, long number) {
        long[] changed = numbers.clone();
        changed[place] = number;
        return new Call(name, changed);
    }

    int on(Object land) {
        try {
            Method method = METHODS.computeIfAbsent(land.getClass().getName() + "." + name, key -> method(land, name));
            Class<?>[] types = method.getParameterTypes();
            Object[] given = new Object[types.length];
            for (int i = 0; i < types.length; i++) given[i] = given(types[i], numbers[i]);
            return (int) method.invoke(land, given);
        } catch (IllegalAccessException | InvocationTargetException e) {
            throw new IllegalStateException(this + " threw", e);
        }
    }

    private static Method method(Object land, String name) {
        for (Method method : land.getClass().getDeclaredMethods()) {
            boolean isFace = !java.lang.reflect.Modifier.isPrivate(method.getModifiers());
            if (isFace && method.getName().equals(name)) return method;
        }
        throw new IllegalStateException("no " + name);
    }

    private static Object given(Class<?> type, long number) {
        if (type == boolean.class) return number != 0;
        if (type == long.class) return number;
        return Math.toIntExact(number);
    }

    @Override
    public String toString() {
        StringBuilder told = new StringBuilder();
        for (long number : numbers) told.append(told.length() == 0 ? "" : ", ").append(number);
        return name + "(" + told + ")";
    }
}
