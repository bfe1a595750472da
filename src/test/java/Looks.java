/**
 * All that can be asked of an object, so that two moments can be compared. It is asked in parts:
 * each is meant for a new object with the same calls behind it, since an object is good for 512.
 */
final class Looks {
    /** The calls of the longest look: four questions for each pair of servers. */
    static final int MOST_CALLS = 4 * 36;

    private Looks() {
    }

    /** What the text in the buffer does to a channel of which all nicks are members. */
    static String text(RelayNetwork network) {
        network.createServers(1);
        for (int nick = 0; nick < 10; nick++) {
            network.signOn(0, nick);
            network.join(0, nick, 0);
        }
        int items = network.applyModes(0, 0, 0);
        return "text: applyModes answered " + items + ", modes " + network.modes(0, 0)
                + ", operators " + network.operators(0, 0);
    }

    static String users(RelayNetwork network) {
        StringBuilder look = new StringBuilder("time " + network.time() + ", deprived "
                + network.lastDeprived() + ", dropped " + network.lastDropped() + ", kills "
                + network.fewestKills() + ", first link " + network.bestFirstLink());
        for (int server = 0; server < 6; server++) {
            look.append("; users of " + server + ": " + network.visibleUsers(server));
            for (int nick = 0; nick < 10; nick++) {
                look.append(" " + network.homeServer(server, nick));
                look.append("@" + network.userTimestamp(server, nick));
            }
        }
        return look.toString();
    }

    static String channels(RelayNetwork network) {
        StringBuilder look = new StringBuilder();
        for (int server = 0; server < 6; server++) {
            look.append("; channels of " + server + ":");
            for (int channel = 0; channel < 4; channel++) {
                look.append(" " + network.members(server, channel));
                look.append("," + network.operators(server, channel));
                look.append("," + network.modes(server, channel));
                look.append("@" + network.channelTimestamp(server, channel));
            }
        }
        return look.toString();
    }

    static String pairs(RelayNetwork network) {
        StringBuilder look = new StringBuilder();
        for (int first = 0; first < 6; first++) {
            look.append("; links of " + first + ":");
            for (int second = 0; second < 6; second++) {
                look.append(" " + network.hops(first, second));
                look.append("," + network.burstSize(first, second));
                look.append("," + network.killsIfConnected(first, second));
                look.append("," + network.lostIfDisconnected(first, second));
            }
        }
        return look.toString();
    }
}
