import java.lang.reflect.Method;
import java.util.HashMap;
import java.util.Map;
import java.util.regex.Matcher;
import java.util.regex.Pattern;

/**
 * One boundary case: a new object, the calls that are made on it, and the answer due to each.
 *
 * A step is "call(numbers) answer", as often as "3 * " ahead of it says; an answer is a number or
 * the name of a constant. types(..) types all signs of a text and answers as the last type() did;
 * tell(..) types them and answers as town() does.
 */
final class Case {
    private static final int MOST_CALLS = 512;
    private static final Pattern STEP =
        Pattern.compile("(?:(\\d+) \\* )?(\\w+)\\((.*)\\) (\\S+)", Pattern.DOTALL);
    private static final Pattern CALL = Pattern.compile("(\\w+)\\((.*)\\)", Pattern.DOTALL);

    private static final Map<String, Method> FACE = face();

    private final KindStreets x = new KindStreets();
    private int calls;

    static void holds(String name, String... steps) {
        new Case().go(name, steps);
    }

    void go(String name, String... steps) {
        for (String step : steps) {
            Matcher parts = STEP.matcher(step);
            if (!parts.matches()) {
                throw new IllegalArgumentException("no step: " + step);
            }
            int times = parts.group(1) == null ? 1 : Integer.parseInt(parts.group(1));
            for (int i = 0; i < times; i++) {
                Check.due(name + ": " + step, answer(parts.group(2), parts.group(3)),
                    number(parts.group(4)));
            }
        }
        Check.due(name + ": no more calls than an object is used for", Math.max(calls, MOST_CALLS),
            MOST_CALLS);
    }

    long ask(String call) {
        Matcher parts = CALL.matcher(call);
        if (!parts.matches()) {
            throw new IllegalArgumentException("no call: " + call);
        }
        return answer(parts.group(1), parts.group(2));
    }

    int calls() {
        return calls;
    }

    private long answer(String call, String told) {
        if (call.equals("types")) {
            return types(told);
        }
        if (call.equals("tell")) {
            types(told);
            return invoke("town");
        }
        String[] words = told.isEmpty() ? new String[0] : told.split(", ");
        Object[] numbers = new Object[words.length];
        for (int i = 0; i < words.length; i++) {
            numbers[i] = Integer.parseInt(words[i]);
        }
        return invoke(call, numbers);
    }

    private long types(String text) {
        long last = 0;
        for (int i = 0; i < text.length(); i++) {
            last = invoke("type", (int) text.charAt(i));
        }
        return last;
    }

    private long invoke(String call, Object... numbers) {
        calls++;
        try {
            return ((Number) FACE.get(call).invoke(x, numbers)).longValue();
        } catch (ReflectiveOperationException e) {
            throw new IllegalStateException(call, e);
        }
    }

    private static Map<String, Method> face() {
        Map<String, Method> face = new HashMap<>();
        for (Method method : KindStreets.class.getDeclaredMethods()) {
            face.put(method.getName(), method);
        }
        return face;
    }

    private static long number(String answer) {
        switch (answer) {
            case "BAD":
                return KindStreets.BAD;
            case "STATE":
                return KindStreets.STATE;
            case "FULL":
                return KindStreets.FULL;
            case "NONE":
                return KindStreets.NONE;
            case "NO":
                return KindStreets.NO;
            default:
                return Long.parseLong(answer);
        }
    }
}
