import java.lang.reflect.Constructor;
import java.lang.reflect.Field;
import java.lang.reflect.Method;
import java.lang.reflect.Modifier;
import java.nio.file.Files;
import java.nio.file.Path;
import java.util.ArrayList;
import java.util.HashMap;
import java.util.HashSet;
import java.util.List;
import java.util.Map;
import java.util.Set;
import java.util.regex.Matcher;
import java.util.regex.Pattern;

/** The public face, and those rules of LANGUAGE.md that can be read off the class and its text. */
public final class FaceTest {
    private static final String[] FACE = {"createServers 1", "connect 2", "disconnect 2",
        "advance 1", "time 0", "hops 2", "signOn 2", "signOff 2", "changeNick 3", "homeServer 2",
        "userTimestamp 2", "visibleUsers 1", "join 3", "part 3", "kick 4", "appendCharacter 1",
        "clearText 0", "applyModes 3", "members 2", "operators 2", "modes 2", "channelTimestamp 2",
        "lastDeprived 0", "lastDropped 0", "burstSize 2", "killsIfConnected 2",
        "lostIfDisconnected 2", "fewestKills 0", "bestFirstLink 0", "undo 0"};
    private static final String[] BANNED = {"throw", "throws", "try", "catch", "synchronized",
        "assert", "->", "::", "Exact", "Random", "System\\.(?!arraycopy)", "Thread", "hashCode",
        "native", "volatile", "transient", "var"};
    private static final List<String> FAULTS = new ArrayList<>();

    public static void main(String[] args) throws Exception {
        constants();
        members();
        nestedClasses();
        source(Files.readString(Path.of("src/main/java/RelayNetwork.java")));
        for (String fault : FAULTS) {
            System.out.println("FaceTest: " + fault);
        }
        System.out.println("FaceTest: " + FAULTS.size() + " faults");
        if (!FAULTS.isEmpty()) {
            System.exit(1);
        }
    }

    private static void expect(boolean holds, String fault) {
        if (!holds) {
            FAULTS.add(fault);
        }
    }

    private static void constants() {
        expect(RelayNetwork.INVALID_ARGUMENT == -1, "INVALID_ARGUMENT");
        expect(RelayNetwork.INVALID_STATE == -2, "INVALID_STATE");
        expect(RelayNetwork.LIMIT_REACHED == -3, "LIMIT_REACHED");
        expect(RelayNetwork.NONE == -9, "NONE");
    }

    private static void members() {
        Class<?> face = RelayNetwork.class;
        expect(Modifier.isPublic(face.getModifiers()) && Modifier.isFinal(face.getModifiers()),
                "the class is not public and final");
        Map<String, Integer> due = new HashMap<>();
        for (String row : FACE) {
            due.put(row.split(" ")[0], Integer.parseInt(row.split(" ")[1]));
        }
        Set<String> found = new HashSet<>();
        for (Method method : face.getDeclaredMethods()) {
            String name = method.getName();
            if (Modifier.isPublic(method.getModifiers())) {
                found.add(name);
                expect(due.getOrDefault(name, -1) == method.getParameterCount()
                        && method.getReturnType() == int.class
                        && !Modifier.isStatic(method.getModifiers()), "public method " + name);
            } else {
                expect(Modifier.isPrivate(method.getModifiers()), "visible method " + name);
                expect(!due.containsKey(name), "private method named like a public one: " + name);
            }
        }
        expect(found.equals(due.keySet()), "methods are missing");
        Constructor<?>[] constructors = face.getDeclaredConstructors();
        expect(constructors.length == 1 && Modifier.isPublic(constructors[0].getModifiers())
                && constructors[0].getParameterCount() == 0, "the constructor");
        int visible = 0;
        for (Field field : face.getDeclaredFields()) {
            visible += Modifier.isPrivate(field.getModifiers()) ? 0 : 1;
            expect(Modifier.isFinal(field.getModifiers()) || !Modifier.isStatic(field.getModifiers()),
                    "static state " + field.getName());
        }
        expect(visible == 4, "visible fields beside the four constants");
    }

    private static void nestedClasses() {
        Set<String> names = new HashSet<>();
        for (String row : FACE) {
            names.add(row.split(" ")[0]);
        }
        Class<?>[] nested = RelayNetwork.class.getDeclaredClasses();
        expect(nested.length <= 11, "more than twelve classes");
        for (Class<?> type : nested) {
            expect(Modifier.isStatic(type.getModifiers())
                    && !Modifier.isPublic(type.getModifiers()), "class " + type.getName());
            for (Method method : type.getDeclaredMethods()) {
                expect(!names.contains(method.getName()), "name " + method.getName());
                expect(method.getParameterCount() <= 7, "parameters of " + method.getName());
            }
            for (Field field : type.getDeclaredFields()) {
                expect(!Modifier.isStatic(field.getModifiers())
                        || Modifier.isFinal(field.getModifiers()), "static " + field.getName());
            }
        }
    }

    private static void source(String text) {
        String code = text.replaceAll("(?s)/\\*.*?\\*/", "").replaceAll("//[^\n]*", "")
                .replaceAll("\"[^\"\n]*\"", "\"\"");
        for (String banned : BANNED) {
            boolean word = Character.isLetter(banned.charAt(0)) && banned.indexOf('\\') < 0
                    && !banned.equals("Exact");
            Matcher matcher = Pattern.compile(word ? "\\b" + banned + "\\b" : banned).matcher(code);
            expect(!matcher.find(), "the source has " + banned);
        }
        Matcher imports = Pattern.compile("import ([^;]*);").matcher(code);
        while (imports.find()) {
            expect(imports.group(1).equals("java.util.Arrays"), "import " + imports.group(1));
        }
        expect(!code.contains("package "), "a package line");
        expect(text.chars().allMatch(c -> c < 128), "a sign beyond 127");
        methodsAreShort(code);
        callsMakeNothing(code);
    }

    /** All runs share one room, so objects are made with the network and by no later call. */
    private static void callsMakeNothing(String code) {
        for (String line : code.split("\n")) {
            boolean made = Pattern.compile("\\bnew\\b|\\.clone\\(|copyOf|substring|toCharArray")
                    .matcher(line).find();
            expect(!made || line.trim().startsWith("private final ")
                    || line.trim().equals("rows[row] = new State();"), "makes: " + line.trim());
        }
    }

    private static void methodsAreShort(String code) {
        String[] lines = code.split("\n");
        Pattern head = Pattern.compile("^( {4}| {8})[a-z].*\\(.*\\{$");
        for (int k = 0; k < lines.length; k++) {
            Matcher matcher = head.matcher(lines[k]);
            if (matcher.find() && !lines[k].contains(" class ")) {
                int end = k;
                while (end < lines.length && !lines[end].equals(matcher.group(1) + "}")) {
                    end++;
                }
                expect(end - k < 60, "long method: " + lines[k].trim());
            }
        }
    }
}
