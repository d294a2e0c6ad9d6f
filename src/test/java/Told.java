import java.lang.reflect.InvocationTargetException;
import java.lang.reflect.Method;
import java.util.HashMap;
import java.util.Map;

/**
 * An object to which calls are told as texts, such as "openWindow 0 99 9"; the answers are texts too.
 * The class and the reference have the same methods, so that both can be told the same.
 */
final class Told {
    /** What an object answers after so many calls is free, so no test may need more. */
    private static final int MOST_CALLS = 512;
    private static final Map<Class<?>, Map<String, Method>> METHODS = new HashMap<>();

    private final Object object;
    private final Map<String, Method> methods;
    private int calls;

    private Told(Object object) {
        this.object = object;
        methods = METHODS.computeIfAbsent(object.getClass(), Told::methodsOf);
    }

    static Told room() {
        return new Told(new WaitingRoomSimulation());
    }

    static Told reference() {
        return new Told(new Reference());
    }

    private static Map<String, Method> methodsOf(Class<?> owner) {
        Map<String, Method> found = new HashMap<>();
        for (Method method : owner.getDeclaredMethods()) {
            found.put(method.getName(), method);
        }
        return found;
    }

    /** Some texts stand for several calls, so that long answers can be read: these come first. */
    String answer(String call) {
        int space = call.indexOf(' ');
        String name = space < 0 ? call : call.substring(0, space);
        String rest = space < 0 ? "" : call.substring(space + 1);
        switch (name) {
            case "types":
                return types(rest);
            case "script":
                types(rest);
                return answer("runScript");
            case "queue":
                return output(answer("renderQueue"));
            case "windows":
                return output(answer("renderWindows"));
            case "output":
                return output(String.valueOf(MOST_CALLS));
            case "customer":
                return customer(rest);
            default:
                return single(name, rest.isEmpty() ? new String[0] : rest.split(" "));
        }
    }

    private String types(String text) {
        String length = "";
        for (int i = 0; i < text.length(); i++) {
            length = answer("type " + (int) text.charAt(i));
        }
        return length;
    }

    private String output(String length) {
        StringBuilder text = new StringBuilder();
        for (int i = 0; i < Integer.parseInt(length); i++) {
            String sign = answer("outputAt " + i);
            if (sign.startsWith("throws.")) {
                break;
            }
            text.append(sign.charAt(1));
        }
        return text.toString();
    }

    /** As in "ticket 3 patience 29 sighs 0 ache 1 waited 2 position 1 called sits". */
    private String customer(String index) {
        String ticket = answer("ticket " + index);
        if (ticket.startsWith("throws.")) {
            return ticket;
        }
        String position = answer("position " + index);
        return "ticket " + ticket + " patience " + answer("patience " + index) + " sighs " + answer("sighs " + index)
            + " ache " + answer("ache " + index) + " waited " + answer("waitingTime " + index)
            + (position.startsWith("throws.") ? " window " + answer("windowOfCustomer " + index)
                : " position " + position)
            + (answer("isCalled " + index).equals("true") ? " called" : "")
            + (answer("isSitting " + index).equals("true") ? " sits" : "");
    }

    private String single(String name, String[] words) {
        calls++;
        if (calls == MOST_CALLS + 1) {
            Check.same("a test needs more calls than an object has, at " + name, calls, MOST_CALLS);
        }
        Method method = methods.get(name);
        if (method == null || method.getParameterCount() != words.length) {
            throw new IllegalStateException("no such call: " + name + " with " + words.length + " arguments");
        }
        Object[] arguments = new Object[words.length];
        for (int i = 0; i < words.length; i++) {
            int value = number(words[i]);
            arguments[i] = method.getParameterTypes()[i] == char.class ? (Object) (char) value : (Object) value;
        }
        try {
            return text(method.invoke(object, arguments));
        } catch (InvocationTargetException e) {
            return thrown(e.getCause());
        } catch (IllegalAccessException e) {
            throw new IllegalStateException(e);
        }
    }

    private static int number(String word) {
        switch (word) {
            case "MIN":
                return Integer.MIN_VALUE;
            case "MAX":
                return Integer.MAX_VALUE;
            default:
                return Integer.parseInt(word);
        }
    }

    private static String text(Object answer) {
        if (answer instanceof Character) {
            return "'" + answer + "'";
        }
        return answer instanceof Float ? answer + "f" : String.valueOf(answer);
    }

    /** Exceptions that the document does not name keep a name that is not in it. */
    private static String thrown(Throwable thrown) {
        String name = thrown.getClass().getName();
        return "throws." + name.replaceFirst("^java\\.(lang|util)\\.", "");
    }
}
