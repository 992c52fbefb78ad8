import java.lang.reflect.InvocationTargetException;
import java.lang.reflect.Method;
import java.util.ArrayList;
import java.util.Arrays;
import java.util.HashMap;
import java.util.List;
import java.util.Map;

/**
 * A shop as the calls that lead to it, so that it can be had as often as a test needs it, each time
 * anew: more than 512 calls of one object are not promised. A call is written as in Java:
 * "cut(0, -1, 0)".
 */
final class Story {
    private static final int MOST_CALLS = 512;
    private static final Map<String, Method> METHODS = new HashMap<>();

    static {
        for (Method method : TailorBench.class.getDeclaredMethods()) {
            METHODS.put(method.getName(), method);
        }
    }

    private final List<String> calls = new ArrayList<>();
    /** What there is to see of it, once that was asked. */
    private List<String> seen;

    private Story() {
    }

    static Story of(String... calls) {
        return new Story().then(calls);
    }

    Story then(String... more) {
        Story longer = new Story();
        longer.calls.addAll(calls);
        longer.calls.addAll(Arrays.asList(more));
        return longer;
    }

    Story often(int times, String call) {
        String[] more = new String[times];
        Arrays.fill(more, call);
        return then(more);
    }

    /** How many calls it is. */
    int size() {
        return calls.size();
    }

    TailorBench shop() {
        TailorBench x = new TailorBench();
        for (String call : calls) {
            String got = answer(x, call);
            if (got.endsWith("Exception")) {
                throw new IllegalStateException("in a story " + call + " throws " + got);
            }
        }
        return x;
    }

    /** As a text; of a call that throws, the simple name of what it throws. */
    static String answer(TailorBench x, String call) {
        int open = call.indexOf('(');
        Method method = METHODS.get(call.substring(0, open));
        String inside = call.substring(open + 1, call.length() - 1);
        String[] texts = inside.isEmpty() ? new String[0] : inside.split(", *");
        Object[] args = new Object[texts.length];
        for (int i = 0; i < texts.length; i++) {
            args[i] = method.getParameterTypes()[i] == boolean.class
                    ? (Object) texts[i].equals("true") : (Object) Integer.parseInt(texts[i]);
        }
        try {
            return String.valueOf(method.invoke(x, args));
        } catch (InvocationTargetException e) {
            return e.getCause().getClass().getSimpleName();
        } catch (IllegalAccessException e) {
            throw new IllegalStateException(e);
        }
    }

    /** The answers of every asking call of this shop, and of the changing calls that may follow. */
    List<String> seen() {
        if (seen == null) {
            seen = seenAfter();
        }
        return seen;
    }

    /** The same, once these calls were made, too. */
    List<String> seenAfter(String... last) {
        List<String> found = new ArrayList<>();
        int most = MOST_CALLS - calls.size() - last.length;
        for (int from = 0; from < Asking.ALL.size(); from += most) {
            int to = Math.min(from + most, Asking.ALL.size());
            found.addAll(answers(Asking.ALL.subList(from, to), last));
        }
        found.addAll(answers(Asking.GOING_ON, last));
        return found;
    }

    private List<String> answers(List<String> asked, String[] last) {
        TailorBench x = shop();
        for (String call : last) {
            answer(x, call);
        }
        List<String> found = new ArrayList<>();
        for (String call : asked) {
            found.add(call + " = " + answer(x, call));
        }
        return found;
    }
}
