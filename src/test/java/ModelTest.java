import java.lang.reflect.Method;
import java.util.ArrayList;
import java.util.Arrays;
import java.util.List;
import java.util.Random;

/** Long runs of mixed calls, whose answers are those of the model; the seeds are fixed. */
public final class ModelTest {
    private static final String[] EDITS = {"connect", "connect", "connect", "disconnect", "advance",
        "signOn", "signOn", "signOn", "signOn", "signOff", "changeNick", "join", "join", "join",
        "join", "part", "kick", "text", "text", "undo", "createServers"};
    private static final String[] QUESTIONS = {"time", "hops", "homeServer", "userTimestamp",
        "visibleUsers", "members", "operators", "modes", "channelTimestamp", "lastDeprived",
        "lastDropped", "burstSize", "killsIfConnected", "lostIfDisconnected"};
    private static final int CALLS_OF_AN_OBJECT = 512;
    private static int wrong = 0;
    private static int calls = 0;

    public static void main(String[] args) throws Exception {
        int runs = args.length > 0 ? Integer.parseInt(args[0]) : 400;
        for (int seed = 0; seed < runs && wrong == 0; seed++) {
            new ModelTest(seed).run();
        }
        System.out.println("ModelTest: " + calls + " answers, " + wrong + " wrong");
        if (wrong != 0) {
            System.exit(1);
        }
    }

    private final Random random;
    private final RelayNetwork network = new RelayNetwork();
    private final Model model = new Model();
    private final List<String> log = new ArrayList<>();
    private final int nicks;
    private final int channels;
    private final int resets;

    private ModelTest(int seed) {
        random = new Random(seed);
        nicks = 2 + random.nextInt(9);
        channels = 1 + random.nextInt(4);
        resets = 1 + random.nextInt(20);
    }

    private void run() throws Exception {
        call("createServers", 2 + random.nextInt(5));
        while (log.size() < CALLS_OF_AN_OBJECT && wrong == 0) {
            String edit = EDITS[random.nextInt(EDITS.length)];
            if (edit.equals("text")) {
                text();
            } else if (!edit.equals("createServers")) {
                call(edit);
            } else if (random.nextInt(resets) == 0) {
                call(edit, 1 + random.nextInt(6));
            }
            call(QUESTIONS[random.nextInt(QUESTIONS.length)]);
            if (random.nextInt(25) == 0) {
                call("fewestKills");
                call("bestFirstLink");
            }
            if (random.nextInt(60) == 0) {
                askAll();
            }
        }
    }

    private void askAll() throws Exception {
        for (int server = 0; server < 6; server++) {
            call("visibleUsers", server);
            for (int channel = 0; channel < 4; channel++) {
                call("members", server, channel);
                call("operators", server, channel);
                call("modes", server, channel);
                call("channelTimestamp", server, channel);
            }
            for (int nick = 0; nick < 10; nick++) {
                call("homeServer", server, nick);
                call("userTimestamp", server, nick);
            }
            for (int other = 0; other < 6; other++) {
                call("hops", server, other);
                call("burstSize", server, other);
                call("killsIfConnected", server, other);
                call("lostIfDisconnected", server, other);
            }
        }
    }

    /** A text that is mostly right, for an operator who mostly exists. */
    private void text() throws Exception {
        int length = random.nextInt(10);
        boolean signDue = true;
        for (int k = 0; k < length; k++) {
            if (signDue || random.nextInt(4) == 0) {
                call("appendCharacter", random.nextBoolean() ? '+' : '-');
            }
            signDue = random.nextInt(40) == 0;
            if (random.nextInt(3) == 0) {
                call("appendCharacter", 'o');
                call("appendCharacter", '0' + random.nextInt(nicks));
            } else if (random.nextInt(20) > 0) {
                call("appendCharacter", "imnpst".charAt(random.nextInt(6)));
            } else {
                call("appendCharacter", random.nextInt(256));
            }
        }
        for (int tries = 0; tries < 6; tries++) {
            call("applyModes");
        }
        if (random.nextInt(3) > 0) {
            call("clearText");
        }
    }

    private void call(String name) throws Exception {
        int[] arguments = new int[method(RelayNetwork.class, name).getParameterCount()];
        boolean servers = name.equals("connect") || name.equals("disconnect")
                || name.equals("hops") || name.equals("burstSize") || name.endsWith("connected");
        int[] ranges = {6, servers ? 6 : nicks, name.equals("changeNick") ? nicks : channels, nicks};
        if (arguments.length == 2 && (name.equals("members") || name.equals("operators")
                || name.equals("modes") || name.equals("channelTimestamp"))) {
            ranges[1] = channels;
        }
        for (int k = 0; k < arguments.length; k++) {
            arguments[k] = random.nextInt(ranges[k]);
            if (random.nextInt(80) == 0) {
                arguments[k] = random.nextInt(14) - 2;
            }
        }
        if (name.equals("advance")) {
            arguments[0] = 1 + random.nextInt(random.nextInt(30) == 0 ? 999 : 2);
        }
        ownUser(name, arguments);
        call(name, arguments);
    }

    /** Most calls of a user are to name a user who is there. */
    private void ownUser(String name, int[] arguments) {
        boolean named = List.of("signOff", "changeNick", "join", "part", "kick", "applyModes")
                .contains(name);
        if (named && random.nextInt(5) > 0) {
            int home = model.homeServer(arguments[0], arguments[1]);
            if (home >= 0) {
                arguments[0] = home;
            }
        }
    }

    private void call(String name, int... arguments) throws Exception {
        // What an object answers after its 512th call is free.
        if (log.size() >= CALLS_OF_AN_OBJECT) {
            return;
        }
        Object[] boxed = new Object[arguments.length];
        for (int k = 0; k < arguments.length; k++) {
            boxed[k] = arguments[k];
        }
        int want = (Integer) method(Model.class, name).invoke(model, boxed);
        int got = (Integer) method(RelayNetwork.class, name).invoke(network, boxed);
        String call = name + Arrays.toString(arguments);
        log.add(call + " = " + got);
        calls++;
        if (got != want && wrong == 0) {
            wrong++;
            System.out.println("ModelTest: " + call + " answered " + got + ", due is " + want
                    + "\n  " + String.join("\n  ", log));
        }
    }

    private static Method method(Class<?> type, String name) {
        for (Method method : type.getDeclaredMethods()) {
            if (method.getName().equals(name)) {
                return method;
            }
        }
        throw new IllegalArgumentException(name);
    }
}
