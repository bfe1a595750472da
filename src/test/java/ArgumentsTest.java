/**
 * Wrong arguments of every call: each one out of its range, alone and with others, answers
 * INVALID_ARGUMENT whatever the state is, and changes nothing; and no arguments ever throw.
 */
public final class ArgumentsTest {
    private static final int[] OUTSIDE =
        {Integer.MIN_VALUE, Integer.MIN_VALUE + 1, -1000, -32, -2, -1, 1001, 65536, 1 << 30,
            Integer.MAX_VALUE - 1, Integer.MAX_VALUE};
    private static final String BEGIN = "createServers(4) = 0; connect(0,1) = 0; connect(1,2) = 0;"
            + "signOn(0,3) = 1; signOn(1,4) = 2; signOn(3,3) = 1; join(0,3,2) = 1;"
            + "join(1,4,2) = 2; join(3,3,2) = 1; '+so4';";
    /** Name, then for each parameter the least and the greatest value in its range. */
    private static final String[] CALLS = {"createServers 1 6", "connect 0 3 0 3",
        "disconnect 0 3 0 3", "advance 1 999", "hops 0 3 0 3", "signOn 0 3 0 9", "signOff 0 3 0 9",
        "changeNick 0 3 0 9 0 9", "homeServer 0 3 0 9", "userTimestamp 0 3 0 9",
        "visibleUsers 0 3", "join 0 3 0 9 0 3", "part 0 3 0 9 0 3", "kick 0 3 0 9 0 3 0 9",
        "appendCharacter 0 255", "applyModes 0 3 0 9 0 3", "members 0 3 0 3", "operators 0 3 0 3",
        "modes 0 3 0 3", "channelTimestamp 0 3 0 3", "burstSize 0 3 0 3",
        "killsIfConnected 0 3 0 3", "lostIfDisconnected 0 3 0 3"};
    private static Boundary boundary;

    public static void main(String[] args) throws Exception {
        boundary = new Boundary("ArgumentsTest");
        boundary.description("`INVALID_ARGUMENT = -1`: An argument is out of its range");
        for (String call : CALLS) {
            check(call.split(" "));
        }
        boundary.end();
    }

    private static void check(String[] call) {
        int parameters = call.length / 2;
        int[] least = new int[parameters];
        int[] greatest = new int[parameters];
        for (int k = 0; k < parameters; k++) {
            least[k] = Integer.parseInt(call[2 * k + 1]);
            greatest[k] = Integer.parseInt(call[2 * k + 2]);
        }
        for (int wrong = 0; wrong < parameters; wrong++) {
            StringBuilder rows = new StringBuilder(BEGIN);
            for (int k = 0; k < OUTSIDE.length + 2; k++) {
                int value = k < OUTSIDE.length ? OUTSIDE[k]
                        : k == OUTSIDE.length ? least[wrong] - 1 : greatest[wrong] + 1;
                for (int[] others : new int[][] {least, greatest, middle(least), outside()}) {
                    rows.append(row(call[0], parameters, wrong, value, others));
                }
            }
            boundary.run(rows + "clearText() = 4; undo() = 7");
        }
    }

    private static String row(String name, int parameters, int wrong, int value, int[] others) {
        StringBuilder row = new StringBuilder(name);
        for (int k = 0; k < parameters; k++) {
            row.append(k == 0 ? "(" : ",").append(k == wrong ? value : others[k]);
        }
        return row + ") = -1;";
    }

    private static int[] middle(int[] least) {
        int[] result = least.clone();
        for (int k = 0; k < result.length; k++) {
            result[k]++;
        }
        return result;
    }

    private static int[] outside() {
        return new int[] {-1, Integer.MAX_VALUE, Integer.MIN_VALUE, 99};
    }
}
