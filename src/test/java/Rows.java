/** Rows of calls with their answers, in the words of Script, that many boundary tests begin with. */
final class Rows {
    private Rows() {
    }

    static String times(int count, String row) {
        return row.repeat(count);
    }

    /** Servers on an object that has no users, linked 0-1, 1-2 and so on. */
    static String chain(int count) {
        StringBuilder rows = new StringBuilder("createServers(" + count + ") = 0;");
        for (int server = 1; server < count; server++) {
            rows.append("connect(" + (server - 1) + "," + server + ") = 0;");
        }
        return rows.toString();
    }

    /** The clock goes on from one time to a later one in the fewest calls. */
    static String clock(int from, int to) {
        StringBuilder rows = new StringBuilder();
        int now = from;
        while (now < to) {
            int ticks = Math.min(999, to - now);
            now += ticks;
            rows.append("advance(" + ticks + ") = " + now + ";");
        }
        return rows.toString();
    }

    /** All ten nicks on a server whose network has no users. */
    static String crowd(int server) {
        StringBuilder rows = new StringBuilder();
        for (int nick = 0; nick < 10; nick++) {
            rows.append("signOn(" + server + "," + nick + ") = " + (nick + 1) + ";");
        }
        return rows.toString();
    }

    /** The nicks up to the last one join a channel without members, the first as its operator. */
    static String joins(int server, int first, int last, int channel) {
        StringBuilder rows = new StringBuilder();
        for (int nick = first; nick <= last; nick++) {
            rows.append("join(" + server + "," + nick + "," + channel + ") = "
                    + (nick - first + 1) + ";");
        }
        return rows.toString();
    }

    /** One user, nick 0, who is the operator of each of the four channels. */
    static String founder(int server) {
        StringBuilder rows = new StringBuilder("signOn(" + server + ",0) = 1;");
        for (int channel = 0; channel < 4; channel++) {
            rows.append("join(" + server + ",0," + channel + ") = 1;");
        }
        return rows.toString();
    }
}
