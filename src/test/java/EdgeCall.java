import java.lang.reflect.InvocationTargetException;
import java.lang.reflect.Method;
import java.lang.reflect.Modifier;
import java.util.ArrayList;
import java.util.Arrays;
import java.util.List;
import java.util.Map;
import java.util.TreeMap;

/** One call of the face, told in words: "posting 1 -5". MAX and MIN are those of the argument's own kind. */
final class EdgeCall {
    private static final Map<String, Method> FACE = face();

    private final Method method;
    private final Object[] args;

    private EdgeCall(Method method, Object[] args) {
        this.method = method;
        this.args = args;
    }

    private static Map<String, Method> face() {
        Map<String, Method> found = new TreeMap<>();
        for (Method m : DoubleLedger.class.getDeclaredMethods()) {
            if (Modifier.isPublic(m.getModifiers())) {
                found.put(m.getName(), m);
            }
        }
        return found;
    }

    static EdgeCall of(String name, long... numbers) {
        Method method = FACE.get(name);
        if (method == null || method.getParameterCount() != numbers.length) {
            throw new IllegalArgumentException("no such call: " + name + " " + Arrays.toString(numbers));
        }
        Object[] args = new Object[numbers.length];
        for (int i = 0; i < numbers.length; i++) {
            boolean isLong = method.getParameterTypes()[i] == long.class;
            args[i] = isLong ? (Object) numbers[i] : (Object) Math.toIntExact(numbers[i]);
        }
        return new EdgeCall(method, args);
    }

    /** Every call that the words tell: "of 0,2 3..4" tells four, the last word's numbers changing fastest. */
    static List<EdgeCall> all(String words) {
        String[] parts = words.trim().split(" +");
        Method method = FACE.get(parts[0]);
        if (method == null || method.getParameterCount() != parts.length - 1) {
            throw new IllegalArgumentException("no such call: " + words);
        }
        List<long[]> rows = new ArrayList<>(List.of(new long[0]));
        for (int i = 1; i < parts.length; i++) {
            boolean isLong = method.getParameterTypes()[i - 1] == long.class;
            List<long[]> longer = new ArrayList<>();
            for (long[] row : rows) {
                for (long number : numbers(parts[i], isLong)) {
                    long[] next = Arrays.copyOf(row, i);
                    next[i - 1] = number;
                    longer.add(next);
                }
            }
            rows = longer;
        }
        return rows.stream().map(row -> of(parts[0], row)).toList();
    }

    private static List<Long> numbers(String word, boolean isLong) {
        List<Long> found = new ArrayList<>();
        for (String part : word.split(",")) {
            int dots = part.indexOf("..");
            long first = number(dots < 0 ? part : part.substring(0, dots), isLong);
            long last = dots < 0 ? first : number(part.substring(dots + 2), isLong);
            for (long n = first; ; n++) {
                found.add(n);
                if (n >= last) {
                    break;
                }
            }
        }
        return found;
    }

    static long number(String word, boolean isLong) {
        switch (word) {
            case "MAX": return isLong ? Long.MAX_VALUE : Integer.MAX_VALUE;
            case "MIN": case "NO": return isLong ? Long.MIN_VALUE : Integer.MIN_VALUE;
            default: return Long.parseLong(word);
        }
    }

    String name() {
        return method.getName();
    }

    boolean isTold(int what) {
        return name().equals("told") && args[0].equals(what);
    }

    long on(DoubleLedger x) {
        try {
            return ((Number) method.invoke(x, args)).longValue();
        } catch (InvocationTargetException e) {
            throw new IllegalStateException(this + " threw " + e.getCause(), e.getCause());
        } catch (IllegalAccessException e) {
            throw new IllegalStateException(e);
        }
    }

    @Override
    public String toString() {
        String row = Arrays.toString(args);
        return name() + "(" + row.substring(1, row.length() - 1) + ")";
    }
}
