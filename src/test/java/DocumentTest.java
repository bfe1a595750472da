import java.lang.reflect.Constructor;
import java.lang.reflect.Field;
import java.lang.reflect.Method;
import java.lang.reflect.Modifier;
import java.nio.file.Files;
import java.nio.file.Path;
import java.util.ArrayList;
import java.util.Arrays;
import java.util.List;
import java.util.TreeSet;
import java.util.regex.Matcher;
import java.util.regex.Pattern;

/**
 * What the document writes as code, taken from ../shared/DOC.md itself and not from a copy: "The
 * public face", the signature of each promise, the values of the constants, and the examples.
 */
public final class DocumentTest {
    private static final Path DOCUMENT = Path.of("../shared/DOC.md");
    private static final int PROMISES = 31;
    private static final int EXAMPLES = 4;
    private static final Script SCRIPT = new Script("DocumentTest");

    public static void main(String[] args) throws Exception {
        if (!Files.exists(DOCUMENT)) {
            System.out.println("DocumentTest: there is no " + DOCUMENT + ", nothing was compared");
            return;
        }
        List<String> lines = Files.readAllLines(DOCUMENT);
        List<String> face = faceOfDocument(lines);
        same("The public face", new TreeSet<>(face), faceOfClass());
        signatures(lines, face);
        constants(lines);
        examples(lines);
        SCRIPT.end();
    }

    private static void same(String where, Object due, Object got) {
        boolean equal = due.equals(got);
        SCRIPT.due(where, equal ? "comparison" : got + " instead of " + due, equal ? 1 : 0, 1);
    }

    // ---- the public face

    private static List<String> faceOfDocument(List<String> lines) {
        List<String> face = new ArrayList<>();
        int line = lines.indexOf("```java") + 1;
        while (!lines.get(line).equals("```")) {
            String row = lines.get(line).trim();
            if (!row.equals("}")) {
                face.add(withoutNames(row.replaceAll("[{;]", "").trim()));
            }
            line++;
        }
        return face;
    }

    /** How parameters are called is not seen from outside, so their types alone are kept. */
    private static String withoutNames(String row) {
        return row.replaceAll("(\\w+) \\w+(?=[,)])", "$1");
    }

    private static TreeSet<String> faceOfClass() throws IllegalAccessException {
        Class<?> type = RelayNetwork.class;
        TreeSet<String> face = new TreeSet<>();
        face.add(Modifier.toString(type.getModifiers()) + " class " + type.getName());
        for (Field field : type.getDeclaredFields()) {
            if (!Modifier.isPrivate(field.getModifiers())) {
                face.add(Modifier.toString(field.getModifiers()) + " " + field.getType()
                        + " " + field.getName() + " = " + field.get(null));
            }
        }
        for (Constructor<?> made : type.getDeclaredConstructors()) {
            if (!Modifier.isPrivate(made.getModifiers())) {
                face.add(Modifier.toString(made.getModifiers()) + " " + type.getName()
                        + types(made.getParameterTypes()));
            }
        }
        for (Method method : type.getDeclaredMethods()) {
            if (!Modifier.isPrivate(method.getModifiers())) {
                face.add(Modifier.toString(method.getModifiers()) + " " + method.getReturnType()
                        + " " + method.getName() + types(method.getParameterTypes()));
            }
        }
        return face;
    }

    private static String types(Class<?>[] parameters) {
        List<String> names = new ArrayList<>();
        Arrays.stream(parameters).forEach(parameter -> names.add(parameter.getName()));
        return "(" + String.join(", ", names) + ")";
    }

    // ---- the promises

    private static void signatures(List<String> lines, List<String> face) {
        int promises = 0;
        for (int k = 0; k + 2 < lines.size(); k++) {
            Matcher heading = Pattern.compile("## Promise (\\d+): (.*)").matcher(lines.get(k));
            if (heading.matches()) {
                promises++;
                String where = "Promise " + promises;
                same(where, Integer.toString(promises), heading.group(1));
                String signature = lines.get(k + 2).replace("`", "");
                String row = withoutNames("public " + signature);
                same(where + ": " + signature, true, face.contains(row));
                String name = promises == 1 ? "RelayNetwork()" : " " + heading.group(2) + "(";
                same(where + ": " + name, true, signature.contains(name));
            }
        }
        same("the promises", PROMISES, promises);
    }

    private static void constants(List<String> lines) throws ReflectiveOperationException {
        Pattern row = Pattern.compile("- `([A-Z_]+) = (-?\\d+)`: .*");
        int constants = 0;
        for (String line : lines) {
            Matcher matcher = row.matcher(line);
            if (matcher.matches()) {
                constants++;
                Field field = RelayNetwork.class.getField(matcher.group(1));
                same("The constants: " + line, Integer.parseInt(matcher.group(2)),
                        field.getInt(null));
            }
        }
        same("The constants", 4, constants);
    }

    // ---- the examples

    private static void examples(List<String> lines) {
        int line = 0;
        while (!lines.get(line).startsWith("Examples: ")) {
            line++;
        }
        for (int example = 1; example <= EXAMPLES; example++) {
            String text = lines.get(line + example);
            same("Examples", true, text.startsWith(example + ". "));
            // A title may have a colon of its own, so the calls stand behind the last one.
            String calls = text.substring(text.lastIndexOf(": ") + 2);
            Matcher call = Pattern.compile("(\\w+\\([^)]*\\) = -?\\d+)(; |\\.$)").matcher(calls);
            StringBuilder script = new StringBuilder();
            int read = 0;
            while (call.find()) {
                script.append(call.group(1)).append(';');
                read += call.end() - call.start();
            }
            same("Example " + example + " is read whole", calls.length(), read);
            SCRIPT.run(script.toString());
        }
        same("The examples end", true, lines.get(line + EXAMPLES + 1).isBlank());
    }
}
