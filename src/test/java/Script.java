import java.lang.reflect.InvocationTargetException;
import java.lang.reflect.Method;
import java.util.HashMap;
import java.util.Map;

/**
 * A new object and calls on it, written as text: "room(100); 40 * barrel(1); go(0, true)". MIN and MAX are the least and
 * the greatest int. No object is called more often than the document lets it be. The object is a BellBook, or one of
 * another class with the same calls.
 */
final class Script {
    private static final int MOST_CALLS = 512;
    private static final Map<String, Call> KNOWN = new HashMap<>();

    private final Object x;
    private int calls = 0;

    private record Call(Method method, Object[] numbers) {
    }

    Script() {
        this(new BellBook());
    }

    Script(Object x) {
        this.x = x;
    }

    /** Makes all the calls of the text; answers what the last of them answered. */
    int run(String text) {
        int answer = 0;
        for (String part : text.split(";")) {
            if (part.isBlank()) continue;
            int star = part.indexOf('*');
            int times = star < 0 ? 1 : Integer.parseInt(part.substring(0, star).trim());
            for (int i = 0; i < times; i++) answer = call(part.substring(star + 1).trim());
        }
        return answer;
    }

    private int call(String text) {
        calls++;
        if (calls > MOST_CALLS) throw new IllegalStateException("a test calls one object more than 512 times: " + text);
        Call call = KNOWN.computeIfAbsent(x.getClass().getName() + " " + text, key -> read(x.getClass(), text));
        try {
            return (Integer) call.method.invoke(x, call.numbers);
        } catch (InvocationTargetException e) {
            throw new IllegalStateException(text + " threw " + e.getCause(), e);
        } catch (IllegalAccessException e) {
            throw new IllegalStateException("no call of the face: " + text, e);
        }
    }

    private static Call read(Class<?> kind, String text) {
        int open = text.indexOf('(');
        int close = text.indexOf(')');
        if (open < 0 || close != text.length() - 1) throw new IllegalStateException("no call: " + text);
        String inside = text.substring(open + 1, close).trim();
        String[] words = inside.isEmpty() ? new String[0] : inside.split("\\s*,\\s*");
        Object[] numbers = new Object[words.length];
        Class<?>[] types = new Class<?>[words.length];
        for (int i = 0; i < words.length; i++) {
            numbers[i] = number(words[i]);
            types[i] = numbers[i] instanceof Boolean ? boolean.class : int.class;
        }
        try {
            return new Call(kind.getDeclaredMethod(text.substring(0, open), types), numbers);
        } catch (NoSuchMethodException e) {
            throw new IllegalStateException("no call of the face: " + text, e);
        }
    }

    private static Object number(String word) {
        switch (word) {
            case "true": return true;
            case "false": return false;
            case "MIN": return Integer.MIN_VALUE;
            case "MAX": return Integer.MAX_VALUE;
            default: return Integer.parseInt(word);
        }
    }
}
