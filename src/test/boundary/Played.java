import java.lang.reflect.InvocationTargetException;
import java.lang.reflect.Method;
import java.util.HashMap;
import java.util.List;
import java.util.Map;

/** An object of the class, called by the names of its methods, no more often than the document allows. */
final class Played {
    private static final int MOST_CALLS = 512;
    private static final Map<String, Method> FACE = new HashMap<>();

    static {
        for (Method method : MinutePawnshop.class.getMethods()) {
            if (method.getDeclaringClass() == MinutePawnshop.class) {
                FACE.put(method.getName(), method);
            }
        }
    }

    private final MinutePawnshop object = new MinutePawnshop();
    private int calls = 0;

    static Played of(List<Call> calls) {
        Played played = new Played();
        for (Call call : calls) {
            played.answer(call);
        }
        return played;
    }

    Object answer(String name, Object... arguments) {
        return answer(new Call(name, arguments));
    }

    /** What the call returns, or "throws" and the exception's name. */
    Object answer(Call call) {
        calls++;
        if (calls > MOST_CALLS) {
            throw new AssertionError("the test calls an object more than " + MOST_CALLS + " times");
        }
        try {
            return FACE.get(call.name).invoke(object, call.arguments);
        } catch (InvocationTargetException e) {
            return "throws " + e.getCause().getClass().getSimpleName();
        } catch (IllegalAccessException e) {
            throw new AssertionError(e);
        }
    }

    /** A call of the face. */
    static final class Call {
        private final String name;
        private final Object[] arguments;

        Call(String name, Object... arguments) {
            this.name = name;
            this.arguments = arguments;
        }

        @Override
        public String toString() {
            StringBuilder text = new StringBuilder(name);
            for (Object argument : arguments) {
                text.append(' ').append(argument);
            }
            return text.toString();
        }
    }
}
