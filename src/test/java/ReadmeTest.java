import java.io.File;
import java.lang.reflect.Method;
import java.lang.reflect.Modifier;
import java.nio.file.Files;
import java.nio.file.Path;
import java.util.regex.Matcher;
import java.util.regex.Pattern;

/** README.md: its runs answer what it says, and it leaves out no call and no test. */
public final class ReadmeTest {
    private static final Script SCRIPT = new Script("ReadmeTest");

    public static void main(String[] args) throws Exception {
        String page = Files.readString(Path.of("README.md"));
        runs(page);
        for (Method method : RelayNetwork.class.getDeclaredMethods()) {
            if (Modifier.isPublic(method.getModifiers())) {
                named(page, method.getName());
            }
        }
        for (String file : new File("src/test/java").list()) {
            if (file.endsWith("Test.java")) {
                named(page, file.replace(".java", ""));
            }
        }
        SCRIPT.end();
    }

    private static void named(String page, String name) {
        SCRIPT.due("README.md", name + " is named", page.contains("`" + name + "`") ? 1 : 0, 1);
    }

    /** Each block is a run on a new object, a call in each line with its answer behind. */
    private static void runs(String page) {
        Pattern row = Pattern.compile("network\\.(\\w+\\(.*\\)); +// (-?\\d+).*");
        Matcher block = Pattern.compile("(?s)```java\n(.*?)```").matcher(page);
        int blocks = 0;
        while (block.find()) {
            blocks++;
            StringBuilder calls = new StringBuilder();
            String[] lines = block.group(1).split("\n");
            for (int k = 1; k < lines.length; k++) {
                Matcher call = row.matcher(lines[k]);
                SCRIPT.due("README.md", "can be read: " + lines[k], call.matches() ? 1 : 0, 1);
                if (call.matches()) {
                    calls.append(withCodes(call.group(1)) + " = " + call.group(2) + ";");
                }
            }
            SCRIPT.run(calls.toString());
        }
        SCRIPT.due("README.md", "blocks of calls", blocks, 2);
    }

    private static String withCodes(String call) {
        Matcher sign = Pattern.compile("'(.)'").matcher(call);
        return sign.replaceAll(found -> Integer.toString(found.group(1).charAt(0)));
    }
}
