import java.io.IOException;
import java.lang.reflect.Method;
import java.nio.file.Files;
import java.nio.file.Path;
import java.util.ArrayList;
import java.util.HashMap;
import java.util.HashSet;
import java.util.List;
import java.util.Map;
import java.util.Set;

/**
 * Boundary cases, each under the promise and the sentence of the document that it belongs to.
 * Behind a call that is refused all that other calls can show is looked at: the questions, the
 * text buffer, and how much can be undone and what is there then. Every look begins with a new
 * object that gets the same calls again, so that none of them gets more than the document allows.
 * At the end every sentence of the promises that the test is made for must have been named.
 */
final class Boundary {
    private static final Path DOCUMENT = Path.of("../shared/DOC.md");
    private static final int CALLS_OF_AN_OBJECT = 512;
    /** Eight undos, and then the longest of the looks. */
    private static final int LONGEST_LOOK = 8 + Looks.MOST_CALLS;
    private static final int INVALID_ARGUMENT = -1;
    private static final int NONE = -9;

    private record Step(String text, Method method, Object[] arguments, Integer due) {
    }

    private final String name;
    private final Map<String, Method> methods = new HashMap<>();
    private final Map<String, Set<String>> named = new HashMap<>();
    private final Document document;
    private String place = "";
    private int answers = 0;
    private int refusals = 0;
    private int wrong = 0;

    Boundary(String name) throws IOException {
        this.name = name;
        this.document = Files.exists(DOCUMENT) ? new Document(DOCUMENT) : null;
        for (Method method : RelayNetwork.class.getMethods()) {
            if (method.getDeclaringClass() == RelayNetwork.class) {
                methods.put(method.getName(), method);
            }
        }
    }

    // ---- which sentence is tried

    void promise(int number, String sentence) {
        under("Promise " + number, sentence);
    }

    void description(String sentence) {
        under("Description", sentence);
    }

    void under(String heading, String sentence) {
        place = heading + ": \"" + sentence + "\"";
        named.computeIfAbsent(heading, key -> new HashSet<>()).add(sentence);
        if (document != null && !document.sentences(heading).contains(sentence)) {
            fault("the document has no such sentence");
        }
    }

    /** A sentence that sets no bound: what follows from it is tried under others. */
    void noBoundary(String heading, String sentence) {
        under(heading, sentence);
    }

    private void fault(String text) {
        wrong++;
        System.out.println(name + ", " + place + ": " + text);
    }

    // ---- calls and what is due

    /** Runs the calls on a new object, and looks behind each one that is due to be refused. */
    void run(String calls) {
        List<Step> steps = parse(calls);
        RelayNetwork network = new RelayNetwork();
        if (steps.size() > CALLS_OF_AN_OBJECT) {
            fault(steps.size() + " calls of one object");
        }
        List<String> before = null;
        for (int k = 0; k < steps.size(); k++) {
            Step step = steps.get(k);
            int got = answer(network, step);
            if (step.due() != null) {
                due(step.text(), got, step.due(), calls);
            }
            if (step.due() != null && step.due() < 0 && step.due() != NONE) {
                before = unchanged(steps, k, before, calls);
                refusals++;
            } else {
                before = null;
            }
        }
    }

    /** The last of the calls, which is no error, changes nothing either. */
    void runUnchanged(String calls) {
        run(calls);
        List<Step> steps = parse(calls);
        unchanged(steps, steps.size() - 1, null, calls);
    }

    /** Compares what is there before and after the step; the latter is what comes before the next. */
    private List<String> unchanged(List<Step> steps, int k, List<String> known, String calls) {
        if (k + 1 + LONGEST_LOOK > CALLS_OF_AN_OBJECT) {
            fault("no calls are left to look behind " + steps.get(k).text());
        }
        List<String> before = known == null ? state(steps.subList(0, k)) : known;
        List<String> after = state(steps.subList(0, k + 1));
        compare(steps.get(k).text(), before, after, calls);
        return after;
    }

    void due(String call, int got, int want, String calls) {
        answers++;
        if (got != want) {
            fault(call + " answered " + got + ", due is " + want + " in: " + calls);
        }
    }

    private void compare(String call, List<String> before, List<String> after, String calls) {
        for (int k = 0; k < Math.max(before.size(), after.size()); k++) {
            String old = k < before.size() ? before.get(k) : "nothing";
            String now = k < after.size() ? after.get(k) : "nothing";
            if (!old.equals(now)) {
                fault(call + " changed\n  " + old + "\nto\n  " + now + "\nin: " + calls);
                return;
            }
        }
    }

    /**
     * The argument at the question mark is refused below the least and above the greatest value:
     * next to them, where a shift or a shorter number would wrap around, and at the ends of int.
     */
    void outside(String begin, String call, int least, int greatest) {
        int[] values = {least - 1, greatest + 1, least - 32, greatest + 32, least + 256,
            least - 256, least + 65536, least + (1 << 30), Integer.MIN_VALUE + least,
            Integer.MIN_VALUE, Integer.MAX_VALUE};
        StringBuilder rows = new StringBuilder(begin);
        for (int value : values) {
            if (value < least || value > greatest) {
                rows.append(call.replace("?", Integer.toString(value)));
                rows.append(" = " + INVALID_ARGUMENT + ";");
            }
        }
        run(rows.toString());
    }

    private List<Step> parse(String calls) {
        List<Step> steps = new ArrayList<>();
        for (String row : calls.split(";")) {
            String call = row.trim();
            if (call.startsWith("'")) {
                for (char character : call.substring(1, call.length() - 1).toCharArray()) {
                    steps.add(new Step(call, methods.get("appendCharacter"),
                            new Object[] {(int) character}, null));
                }
            } else if (!call.isEmpty()) {
                steps.add(parseCall(call));
            }
        }
        return steps;
    }

    private Step parseCall(String call) {
        int equals = call.lastIndexOf('=');
        int open = call.indexOf('(');
        String inside = call.substring(open + 1, call.indexOf(')')).trim();
        String[] parts = inside.isEmpty() ? new String[0] : inside.split(",");
        Object[] arguments = new Object[parts.length];
        for (int k = 0; k < parts.length; k++) {
            arguments[k] = Integer.parseInt(parts[k].trim());
        }
        return new Step(call.substring(0, equals).trim(), methods.get(call.substring(0, open)),
                arguments, Integer.parseInt(call.substring(equals + 1).trim()));
    }

    private static int answer(RelayNetwork network, Step step) {
        try {
            return (Integer) step.method().invoke(network, step.arguments());
        } catch (ReflectiveOperationException thrown) {
            throw new IllegalStateException(step.text(), thrown);
        }
    }

    // ---- all that other calls show

    private List<String> state(List<Step> steps) {
        List<String> looks = new ArrayList<>();
        looks.add("length of the text: " + again(steps, 0).clearText());
        looks.add(Looks.text(again(steps, 0)));
        int undone = 0;
        String counts = "";
        while (undone >= 0) {
            looks.add(counts + " " + Looks.users(again(steps, undone)));
            looks.add(counts + " " + Looks.channels(again(steps, undone)));
            looks.add(counts + " " + Looks.pairs(again(steps, undone)));
            int left = again(steps, undone).undo();
            counts += " undo() = " + left;
            undone = left < 0 ? -1 : undone + 1;
        }
        looks.add(counts);
        return looks;
    }

    private static RelayNetwork again(List<Step> steps, int undone) {
        RelayNetwork network = new RelayNetwork();
        for (Step step : steps) {
            answer(network, step);
        }
        for (int k = 0; k < undone; k++) {
            network.undo();
        }
        return network;
    }

    // ---- the end

    void endOfPromises(int first, int last) {
        for (int number = first; number <= last; number++) {
            allNamed("Promise " + number);
        }
        end();
    }

    void allNamed(String heading) {
        if (document == null) {
            return;
        }
        for (String sentence : document.sentences(heading)) {
            if (!named.getOrDefault(heading, Set.of()).contains(sentence)) {
                place = heading + ": \"" + sentence + "\"";
                fault("is not named by a test");
            }
        }
    }

    void end() {
        System.out.println(name + ": " + answers + " answers, " + refusals
                + " refused calls looked behind, " + wrong + " wrong");
        if (wrong != 0) {
            System.exit(1);
        }
    }
}
