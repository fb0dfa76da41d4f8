import java.lang.reflect.Method;
import java.lang.reflect.Modifier;
import java.util.HashMap;
import java.util.Map;

/** One court whose calls are written as text, as in "plot(0, 20040, 3)"; a boolean counts 1 or 0. */
final class Court {
    private static final int MOST_CALLS = 512;
    private static final Map<String, Method> FACE = methodsOf(AfterFire.class);
    private static final Map<String, Method> PLAIN = methodsOf(PlainCourt.class);

    private final Check check;
    private final AfterFire fire = new AfterFire();
    private int calls = 0;

    Court(Check check) {
        this.check = check;
    }

    /** Calls that make a state: each is to be taken, so that no test stands on a call that wasn't. */
    Court run(String... made) {
        for (String call : made) {
            long got = ask(call);
            check.holds(call + " was refused, answered " + got, got != refusal(call));
        }
        return this;
    }

    Court run(int times, String call) {
        for (int i = 0; i < times; i++) {
            run(call);
        }
        return this;
    }

    Court due(String call, long want) {
        check.due(call, ask(call), want);
        return this;
    }

    Court refused(String... refused) {
        for (String call : refused) {
            due(call, refusal(call));
        }
        return this;
    }

    /** What a call answers when it is refused. */
    static long refusal(String call) {
        String name = nameOf(call);
        if (name.equals("coins") || name.equals("has")) {
            return Integer.MIN_VALUE;
        }
        return FACE.get(name).getReturnType() == boolean.class ? 0 : -1;
    }

    long ask(String call) {
        calls++;
        if (calls > MOST_CALLS) {
            throw new IllegalStateException("a test made more than " + MOST_CALLS + " calls");
        }
        return invoke(FACE.get(nameOf(call)), fire, call);
    }

    /** The plain model's answer to the same text. */
    static long ask(PlainCourt plain, String call) {
        return invoke(PLAIN.get(nameOf(call)), plain, call);
    }

    private static long invoke(Method m, Object target, String call) {
        String[] words = call.substring(call.indexOf('(') + 1, call.indexOf(')')).split(",");
        Object[] args = new Object[m.getParameterCount()];
        for (int i = 0; i < args.length; i++) {
            args[i] = Integer.valueOf(words[i].trim());
        }
        try {
            Object answer = m.invoke(target, args);
            return answer instanceof Boolean yes ? yes ? 1 : 0 : (Integer) answer;
        } catch (ReflectiveOperationException e) {
            throw new IllegalStateException(call + " threw " + e.getCause(), e);
        }
    }

    private static Map<String, Method> methodsOf(Class<?> c) {
        Map<String, Method> found = new HashMap<>();
        for (Method m : c.getDeclaredMethods()) {
            if (!Modifier.isPrivate(m.getModifiers())) {
                found.put(m.getName(), m);
            }
        }
        return found;
    }

    private static String nameOf(String call) {
        return call.substring(0, call.indexOf('('));
    }
}
