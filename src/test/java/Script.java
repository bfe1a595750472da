import java.lang.reflect.InvocationTargetException;
import java.lang.reflect.Method;
import java.util.HashMap;
import java.util.Map;

/**
 * Runs calls that are written as in the document, "connect(0,1) = 1; time() = 0", and tells each
 * wrong answer. A text in quotes, "'+mo3'", appends its characters to the text buffer.
 */
final class Script {
    private final String name;
    private final Map<String, Method> methods = new HashMap<>();
    private int wrong = 0;
    private int calls = 0;

    Script(String name) {
        this.name = name;
        for (Method method : RelayNetwork.class.getDeclaredMethods()) {
            if (java.lang.reflect.Modifier.isPublic(method.getModifiers())) {
                methods.put(method.getName(), method);
            }
        }
    }

    /** Runs the calls on a new object and gives it back for more. */
    RelayNetwork run(String calls) {
        RelayNetwork network = new RelayNetwork();
        on(network, calls);
        return network;
    }

    void on(RelayNetwork network, String calls) {
        for (String row : calls.split(";")) {
            String call = row.trim();
            if (call.startsWith("'")) {
                type(network, call.substring(1, call.length() - 1));
            } else if (!call.isEmpty()) {
                int equals = call.lastIndexOf('=');
                int want = Integer.parseInt(call.substring(equals + 1).trim());
                String what = call.substring(0, equals).trim();
                due(calls, what, answer(network, what), want);
            }
        }
    }

    void type(RelayNetwork network, String text) {
        for (int k = 0; k < text.length(); k++) {
            network.appendCharacter(text.charAt(k));
        }
    }

    private int answer(RelayNetwork network, String call) {
        int open = call.indexOf('(');
        String inside = call.substring(open + 1, call.lastIndexOf(')')).trim();
        String[] parts = inside.isEmpty() ? new String[0] : inside.split(",");
        Object[] arguments = new Object[parts.length];
        for (int k = 0; k < parts.length; k++) {
            arguments[k] = Integer.parseInt(parts[k].trim());
        }
        return answer(network, call.substring(0, open), arguments);
    }

    int answer(RelayNetwork network, String method, Object... arguments) {
        try {
            return (Integer) methods.get(method).invoke(network, arguments);
        } catch (InvocationTargetException thrown) {
            throw new IllegalStateException(method + " threw", thrown.getCause());
        } catch (IllegalAccessException hidden) {
            throw new IllegalStateException(method + " is hidden", hidden);
        }
    }

    void due(String where, String call, long got, long want) {
        calls++;
        if (got != want) {
            wrong++;
            System.out.println(name + ": " + call + " answered " + got + ", due is " + want
                    + " in: " + where);
        }
    }

    void end() {
        System.out.println(name + ": " + calls + " answers, " + wrong + " wrong");
        if (wrong != 0) {
            System.exit(1);
        }
    }

    /** All that the questions answer behind the calls. */
    String view(String calls) {
        return Looks.users(run(calls)) + Looks.channels(run(calls)) + Looks.pairs(run(calls));
    }
}
