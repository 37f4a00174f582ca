import java.lang.reflect.InvocationTargetException;
import java.lang.reflect.Method;
import java.util.HashMap;
import java.util.Map;

/**
 * Calls written as text, on one new object: "draw(0, 0, 9, 0, 0, 0, 0, 0) -> 3". Behind the arrow
 * stands the answer that is due, a number or throws.AnException; a call without an arrow is due to
 * answer nothing and throw nothing.
 */
final class Run {
    private static final int CALLS_MOST = 512;
    private static final String ARROW = " -> ";
    static final String NOTHING = "nothing";
    private static final Map<String, Method> METHODS = methods();

    private final Checks checks;
    private final PlaceTests object = new PlaceTests();
    private int calls;

    Run(Checks checks) {
        this.checks = checks;
    }

    static void all(Checks checks, String... rows) {
        Run run = new Run(checks);
        for (String row : rows) {
            run.row(row);
        }
    }

    void row(String row) {
        int arrow = row.indexOf(ARROW);
        if (arrow < 0) {
            due(row, NOTHING);
        } else {
            due(row.substring(0, arrow), row.substring(arrow + ARROW.length()));
        }
    }

    void due(String call, String want) {
        checks.dueText(call, answer(call), numberOrWords(want));
    }

    private String answer(String call) {
        calls++;
        if (calls > CALLS_MOST) {
            return "the test's own fault: behind the 512th call all is free";
        }
        int open = call.indexOf('(');
        int close = call.lastIndexOf(')');
        Method method = open < 0 || close < open ? null : METHODS.get(call.substring(0, open));
        if (method == null) {
            return "the test's own fault: no such call";
        }
        return answer(method, values(call.substring(open + 1, close)));
    }

    private String answer(Method method, Object[] values) {
        if (values.length != method.getParameterCount()) {
            return "the test's own fault: another number of arguments";
        }
        try {
            Object got = method.invoke(object, values);
            return got == null ? NOTHING : got.toString();
        } catch (InvocationTargetException e) {
            return "throws." + e.getCause().getClass().getSimpleName();
        } catch (IllegalAccessException | IllegalArgumentException e) {
            return "the test's own fault: " + e;
        }
    }

    private static Object[] values(String words) {
        String[] each = words.split(",");
        Object[] values = new Object[each.length];
        for (int i = 0; i < each.length; i++) {
            String word = each[i].trim();
            boolean isTruth = word.equals("true") || word.equals("false");
            values[i] = isTruth ? (Object) Boolean.valueOf(word) : (Object) number(word);
        }
        return values;
    }

    /** As Java reads it: 0xFFFFFFFF is -1. */
    private static Integer number(String word) {
        return Long.decode(word).intValue();
    }

    private static String numberOrWords(String want) {
        boolean isNumber = want.matches("-?(0x[0-9A-Fa-f]+|[0-9]+)");
        return isNumber ? number(want).toString() : want;
    }

    private static Map<String, Method> methods() {
        Map<String, Method> all = new HashMap<>();
        for (Method method : PlaceTests.class.getMethods()) {
            if (method.getDeclaringClass() == PlaceTests.class) {
                all.put(method.getName(), method);
            }
        }
        return all;
    }
}
