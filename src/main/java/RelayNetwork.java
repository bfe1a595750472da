import java.util.Arrays;

/** A simulator of a relay chat network. README.md says how it is used. */
public final class RelayNetwork {
    public static final int INVALID_ARGUMENT = -1;
    public static final int INVALID_STATE = -2;
    public static final int LIMIT_REACHED = -3;
    public static final int NONE = -9;

    private static final int MAX_SERVERS = 6;
    private static final int ALL_SERVERS = (1 << MAX_SERVERS) - 1;
    private static final int NICKS = 10;
    private static final int CHANNELS = 4;
    private static final int MAX_TICKS = 999;
    private static final int MAX_TIME = 9999;
    private static final int MAX_CODE = 255;
    private static final int TEXT_CAPACITY = 40;
    private static final int TEXT_ERROR = -10;
    private static final int UNDO_DEPTH = 8;
    private static final int ABSENT = -1;

    private final State state = new State();
    private final History history = new History();
    private final ModeText text = new ModeText();
    private final PlanSearch plans = new PlanSearch();

    public RelayNetwork() {
    }

    // ---- servers and links

    public int createServers(int count) {
        if (count < 1 || count > MAX_SERVERS) {
            return INVALID_ARGUMENT;
        }
        int users = state.countUsers(ALL_SERVERS);
        history.keep(state);
        state.reset(count);
        return users;
    }

    public int connect(int first, int second) {
        if (!state.hasServers(first, second) || first == second) {
            return INVALID_ARGUMENT;
        }
        if (state.shareNetwork(first, second)) {
            return INVALID_STATE;
        }
        history.keep(state);
        int kills = Merge.countKills(state, first, second);
        Merge.settleNicks(state, first, second);
        Merge.settleChannels(state, first, second);
        state.link(first, second);
        return kills;
    }

    public int disconnect(int first, int second) {
        if (!state.hasServers(first, second) || first == second) {
            return INVALID_ARGUMENT;
        }
        if (!state.areLinked(first, second)) {
            return INVALID_STATE;
        }
        history.keep(state);
        state.unlink(first, second);
        return Integer.bitCount(state.networkOf(first));
    }

    public int advance(int ticks) {
        if (ticks < 1 || ticks > MAX_TICKS) {
            return INVALID_ARGUMENT;
        }
        if (state.clock + ticks > MAX_TIME) {
            return LIMIT_REACHED;
        }
        history.keep(state);
        state.clock += ticks;
        return state.clock;
    }

    public int time() {
        return state.clock;
    }

    public int hops(int first, int second) {
        if (!state.hasServers(first, second)) {
            return INVALID_ARGUMENT;
        }
        int reached = 1 << first;
        for (int distance = 0; distance < MAX_SERVERS; distance++) {
            if (hasBit(reached, second)) {
                return distance;
            }
            reached = state.withNeighbours(reached);
        }
        return NONE;
    }

    // ---- users

    public int signOn(int server, int nick) {
        if (!state.hasServer(server) || !isNick(nick)) {
            return INVALID_ARGUMENT;
        }
        int network = state.networkOf(server);
        if (state.homeIn(network, nick) != ABSENT) {
            return INVALID_STATE;
        }
        history.keep(state);
        state.addUser(server, nick);
        return state.countUsers(network);
    }

    public int signOff(int server, int nick) {
        if (!state.hasServer(server) || !isNick(nick)) {
            return INVALID_ARGUMENT;
        }
        if (!state.hasUser(server, nick)) {
            return INVALID_STATE;
        }
        int left = state.countChannelsOf(server, nick);
        history.keep(state);
        state.removeUser(server, nick);
        return left;
    }

    public int changeNick(int server, int nick, int newNick) {
        if (!state.hasServer(server) || !isNick(nick) || !isNick(newNick)) {
            return INVALID_ARGUMENT;
        }
        if (!state.hasUser(server, nick)
                || state.homeIn(state.networkOf(server), newNick) != ABSENT) {
            return INVALID_STATE;
        }
        int previous = state.timeOfUser(server, nick);
        history.keep(state);
        state.renameUser(server, nick, newNick);
        return previous;
    }

    public int homeServer(int server, int nick) {
        if (!state.hasServer(server) || !isNick(nick)) {
            return INVALID_ARGUMENT;
        }
        int home = state.homeIn(state.networkOf(server), nick);
        return home == ABSENT ? NONE : home;
    }

    public int userTimestamp(int server, int nick) {
        if (!state.hasServer(server) || !isNick(nick)) {
            return INVALID_ARGUMENT;
        }
        int stamp = state.timeOfNick(state.networkOf(server), nick);
        return stamp == ABSENT ? NONE : stamp;
    }

    public int visibleUsers(int server) {
        if (!state.hasServer(server)) {
            return INVALID_ARGUMENT;
        }
        return state.nicksIn(state.networkOf(server));
    }

    // ---- channels

    public int join(int server, int nick, int channel) {
        if (!state.hasServer(server) || !isNick(nick) || !isChannel(channel)) {
            return INVALID_ARGUMENT;
        }
        if (!state.hasUser(server, nick) || state.isMember(server, nick, channel)) {
            return INVALID_STATE;
        }
        int network = state.networkOf(server);
        history.keep(state);
        if (!state.hasChannel(server, channel)) {
            state.describeChannel(network, channel, state.clock, 0);
            state.addOperator(server, nick, channel);
        }
        state.addMember(server, nick, channel);
        return Integer.bitCount(state.membersIn(network, channel));
    }

    public int part(int server, int nick, int channel) {
        if (!state.hasServer(server) || !isNick(nick) || !isChannel(channel)) {
            return INVALID_ARGUMENT;
        }
        if (!state.isMember(server, nick, channel)) {
            return INVALID_STATE;
        }
        return leaveChannel(server, nick, channel);
    }

    public int kick(int server, int nick, int channel, int target) {
        if (!state.hasServer(server) || !isNick(nick) || !isChannel(channel) || !isNick(target)) {
            return INVALID_ARGUMENT;
        }
        if (!state.isOperator(server, nick, channel)) {
            return INVALID_STATE;
        }
        int home = state.homeIn(state.networkOf(server), target);
        if (home == ABSENT || !state.isMember(home, target, channel)) {
            return INVALID_STATE;
        }
        return leaveChannel(home, target, channel);
    }

    /** The edit that part and kick share: the member leaves, and the others are counted. */
    private int leaveChannel(int home, int nick, int channel) {
        history.keep(state);
        state.removeMember(home, nick, channel);
        return Integer.bitCount(state.membersIn(state.networkOf(home), channel));
    }

    public int appendCharacter(int character) {
        if (character < 0 || character > MAX_CODE) {
            return INVALID_ARGUMENT;
        }
        if (text.isFull()) {
            return LIMIT_REACHED;
        }
        text.add((char) character);
        return text.length;
    }

    public int clearText() {
        int length = text.length;
        text.empty();
        return length;
    }

    public int applyModes(int server, int nick, int channel) {
        if (!state.hasServer(server) || !isNick(nick) || !isChannel(channel)) {
            return INVALID_ARGUMENT;
        }
        if (!state.isOperator(server, nick, channel)) {
            return INVALID_STATE;
        }
        int network = state.networkOf(server);
        int offset = text.errorOffset(state.membersIn(network, channel));
        if (offset != ModeText.NO_ERROR) {
            return TEXT_ERROR - offset;
        }
        history.keep(state);
        state.describeChannel(network, channel, state.timeOfChannel(server, channel),
                text.modesAfter(state.modesOfChannel(server, channel)));
        state.setOperators(network, channel,
                text.operatorsAfter(state.operatorsIn(network, channel)));
        int items = text.countItems();
        text.empty();
        return items;
    }

    public int members(int server, int channel) {
        if (!state.hasServer(server) || !isChannel(channel)) {
            return INVALID_ARGUMENT;
        }
        return state.membersIn(state.networkOf(server), channel);
    }

    public int operators(int server, int channel) {
        if (!state.hasServer(server) || !isChannel(channel)) {
            return INVALID_ARGUMENT;
        }
        return state.operatorsIn(state.networkOf(server), channel);
    }

    public int modes(int server, int channel) {
        if (!state.hasServer(server) || !isChannel(channel)) {
            return INVALID_ARGUMENT;
        }
        if (!state.hasChannel(server, channel)) {
            return NONE;
        }
        return state.modesOfChannel(server, channel);
    }

    public int channelTimestamp(int server, int channel) {
        if (!state.hasServer(server) || !isChannel(channel)) {
            return INVALID_ARGUMENT;
        }
        if (!state.hasChannel(server, channel)) {
            return NONE;
        }
        return state.timeOfChannel(server, channel);
    }

    // ---- results of the last merge

    public int lastDeprived() {
        return state.deprived;
    }

    public int lastDropped() {
        return state.dropped;
    }

    // ---- forecasts

    public int burstSize(int first, int second) {
        if (!state.hasServers(first, second)) {
            return INVALID_ARGUMENT;
        }
        if (state.shareNetwork(first, second)) {
            return INVALID_STATE;
        }
        return state.countMessages(first) + state.countMessages(second);
    }

    public int killsIfConnected(int first, int second) {
        if (!state.hasServers(first, second)) {
            return INVALID_ARGUMENT;
        }
        if (state.shareNetwork(first, second)) {
            return INVALID_STATE;
        }
        return Merge.countKills(state, first, second);
    }

    public int lostIfDisconnected(int first, int second) {
        if (!state.hasServers(first, second)) {
            return INVALID_ARGUMENT;
        }
        if (!state.areLinked(first, second)) {
            return INVALID_STATE;
        }
        int before = state.countUsers(state.networkOf(0));
        state.unlink(first, second);
        int after = state.countUsers(state.networkOf(0));
        state.link(first, second);
        return before - after;
    }

    public int fewestKills() {
        plans.findBest(state);
        return state.countUsers(ALL_SERVERS) - plans.bestSurvivors;
    }

    public int bestFirstLink() {
        plans.findBest(state);
        return plans.bestOpening;
    }

    public int undo() {
        if (history.count == 0) {
            return INVALID_STATE;
        }
        history.takeBack(state);
        return history.count;
    }

    // ---- arguments and bit sets

    private static boolean isNick(int nick) {
        return nick >= 0 && nick < NICKS;
    }

    private static boolean isChannel(int channel) {
        return channel >= 0 && channel < CHANNELS;
    }

    private static boolean hasBit(int set, int bit) {
        return (set >> bit & 1) != 0;
    }

    private static int withBit(int set, int bit, boolean present) {
        return present ? set | 1 << bit : set & ~(1 << bit);
    }

    /**
     * All that undo restores. A network is a bit set of servers here.
     * Users, memberships and operators are held by home server, and each server has its own copy
     * of the timestamp and the modes of a channel, so that a split needs nothing but the loss of
     * the link. The copies agree within a network as long as the channel exists there, and mean
     * nothing while it does not.
     */
    private static final class State {
        private int serverCount = 1;
        private int clock = 0;
        private int deprived = 0;
        private int dropped = 0;
        private final int[] links = new int[MAX_SERVERS];
        private final int[] userTimes = new int[MAX_SERVERS * NICKS];
        private final int[] memberSets = new int[MAX_SERVERS * CHANNELS];
        private final int[] operatorSets = new int[MAX_SERVERS * CHANNELS];
        private final int[] channelTimes = new int[MAX_SERVERS * CHANNELS];
        private final int[] channelModes = new int[MAX_SERVERS * CHANNELS];

        State() {
            Arrays.fill(userTimes, ABSENT);
        }

        void reset(int count) {
            serverCount = count;
            clock = 0;
            deprived = 0;
            dropped = 0;
            Arrays.fill(links, 0);
            Arrays.fill(userTimes, ABSENT);
            Arrays.fill(memberSets, 0);
            Arrays.fill(operatorSets, 0);
        }

        void copyFrom(State other) {
            serverCount = other.serverCount;
            clock = other.clock;
            deprived = other.deprived;
            dropped = other.dropped;
            System.arraycopy(other.links, 0, links, 0, MAX_SERVERS);
            System.arraycopy(other.userTimes, 0, userTimes, 0, MAX_SERVERS * NICKS);
            System.arraycopy(other.memberSets, 0, memberSets, 0, MAX_SERVERS * CHANNELS);
            System.arraycopy(other.operatorSets, 0, operatorSets, 0, MAX_SERVERS * CHANNELS);
            System.arraycopy(other.channelTimes, 0, channelTimes, 0, MAX_SERVERS * CHANNELS);
            System.arraycopy(other.channelModes, 0, channelModes, 0, MAX_SERVERS * CHANNELS);
        }

        private static int userCell(int server, int nick) {
            return server * NICKS + nick;
        }

        private static int channelCell(int server, int channel) {
            return server * CHANNELS + channel;
        }

        // -- servers and links

        boolean hasServer(int server) {
            return server >= 0 && server < serverCount;
        }

        boolean hasServers(int first, int second) {
            return hasServer(first) && hasServer(second);
        }

        boolean areLinked(int first, int second) {
            return hasBit(links[first], second);
        }

        void link(int first, int second) {
            links[first] = withBit(links[first], second, true);
            links[second] = withBit(links[second], first, true);
        }

        void unlink(int first, int second) {
            links[first] = withBit(links[first], second, false);
            links[second] = withBit(links[second], first, false);
        }

        int withNeighbours(int servers) {
            int all = servers;
            for (int server = 0; server < MAX_SERVERS; server++) {
                if (hasBit(servers, server)) {
                    all |= links[server];
                }
            }
            return all;
        }

        int networkOf(int server) {
            int reached = 1 << server;
            // No path has more links than there are other servers.
            for (int step = 1; step < MAX_SERVERS; step++) {
                reached = withNeighbours(reached);
            }
            return reached;
        }

        boolean shareNetwork(int first, int second) {
            return hasBit(networkOf(first), second);
        }

        // -- users

        boolean hasUser(int server, int nick) {
            return userTimes[userCell(server, nick)] != ABSENT;
        }

        int timeOfUser(int server, int nick) {
            return userTimes[userCell(server, nick)];
        }

        int homeIn(int network, int nick) {
            for (int server = 0; server < MAX_SERVERS; server++) {
                if (hasBit(network, server) && hasUser(server, nick)) {
                    return server;
                }
            }
            return ABSENT;
        }

        int timeOfNick(int network, int nick) {
            int home = homeIn(network, nick);
            return home == ABSENT ? ABSENT : timeOfUser(home, nick);
        }

        int nicksIn(int network) {
            int nicks = 0;
            for (int nick = 0; nick < NICKS; nick++) {
                nicks = withBit(nicks, nick, homeIn(network, nick) != ABSENT);
            }
            return nicks;
        }

        /** Counts homes rather than nicks, since the servers may belong to several networks. */
        int countUsers(int servers) {
            int users = 0;
            for (int server = 0; server < MAX_SERVERS; server++) {
                for (int nick = 0; nick < NICKS; nick++) {
                    if (hasBit(servers, server) && hasUser(server, nick)) {
                        users++;
                    }
                }
            }
            return users;
        }

        int countChannelsOf(int server, int nick) {
            int count = 0;
            for (int channel = 0; channel < CHANNELS; channel++) {
                if (isMember(server, nick, channel)) {
                    count++;
                }
            }
            return count;
        }

        void addUser(int server, int nick) {
            userTimes[userCell(server, nick)] = clock;
        }

        void removeUser(int server, int nick) {
            userTimes[userCell(server, nick)] = ABSENT;
            for (int channel = 0; channel < CHANNELS; channel++) {
                removeMember(server, nick, channel);
            }
        }

        void renameUser(int server, int nick, int newNick) {
            addUser(server, newNick);
            for (int channel = 0; channel < CHANNELS; channel++) {
                if (isMember(server, nick, channel)) {
                    addMember(server, newNick, channel);
                }
                if (isOperator(server, nick, channel)) {
                    addOperator(server, newNick, channel);
                }
            }
            removeUser(server, nick);
        }

        // -- channels

        boolean isMember(int server, int nick, int channel) {
            return hasBit(memberSets[channelCell(server, channel)], nick);
        }

        boolean isOperator(int server, int nick, int channel) {
            return hasBit(operatorSets[channelCell(server, channel)], nick);
        }

        void addMember(int server, int nick, int channel) {
            int cell = channelCell(server, channel);
            memberSets[cell] = withBit(memberSets[cell], nick, true);
        }

        void addOperator(int server, int nick, int channel) {
            int cell = channelCell(server, channel);
            operatorSets[cell] = withBit(operatorSets[cell], nick, true);
        }

        void removeMember(int server, int nick, int channel) {
            int cell = channelCell(server, channel);
            memberSets[cell] = withBit(memberSets[cell], nick, false);
            operatorSets[cell] = withBit(operatorSets[cell], nick, false);
        }

        int membersIn(int network, int channel) {
            return unionOf(memberSets, network, channel);
        }

        int operatorsIn(int network, int channel) {
            return unionOf(operatorSets, network, channel);
        }

        private static int unionOf(int[] sets, int network, int channel) {
            int union = 0;
            for (int server = 0; server < MAX_SERVERS; server++) {
                if (hasBit(network, server)) {
                    union |= sets[channelCell(server, channel)];
                }
            }
            return union;
        }

        /** Of the given nicks, each member of the network's channel becomes an operator, no other. */
        void setOperators(int network, int channel, int nicks) {
            for (int server = 0; server < MAX_SERVERS; server++) {
                if (hasBit(network, server)) {
                    int cell = channelCell(server, channel);
                    operatorSets[cell] = memberSets[cell] & nicks;
                }
            }
        }

        boolean hasChannel(int server, int channel) {
            return membersIn(networkOf(server), channel) != 0;
        }

        int timeOfChannel(int server, int channel) {
            return channelTimes[channelCell(server, channel)];
        }

        int modesOfChannel(int server, int channel) {
            return channelModes[channelCell(server, channel)];
        }

        void describeChannel(int network, int channel, int stamp, int modeSet) {
            for (int server = 0; server < MAX_SERVERS; server++) {
                if (hasBit(network, server)) {
                    channelTimes[channelCell(server, channel)] = stamp;
                    channelModes[channelCell(server, channel)] = modeSet;
                }
            }
        }

        /** The messages of a burst that tell of the server's network. */
        int countMessages(int server) {
            int network = networkOf(server);
            int messages = Integer.bitCount(network) + countUsers(network);
            for (int channel = 0; channel < CHANNELS; channel++) {
                int memberships = Integer.bitCount(membersIn(network, channel));
                if (memberships > 0) {
                    messages += memberships + Integer.bitCount(modesOfChannel(server, channel));
                }
            }
            return messages;
        }
    }

    /**
     * What happens to the users and channels of two servers' networks when they are linked.
     * All of it is asked before the link is made, while the networks are still apart.
     */
    private static final class Merge {
        private Merge() {
        }

        /** The timestamp of the user who stays when two networks' users of a nick meet. */
        static int survivor(int left, int right) {
            if (left == ABSENT || right == ABSENT) {
                return Math.max(left, right);
            }
            return left == right ? ABSENT : Math.min(left, right);
        }

        static int countKills(State state, int first, int second) {
            int left = state.networkOf(first);
            int right = state.networkOf(second);
            int kills = 0;
            for (int nick = 0; nick < NICKS; nick++) {
                int leftTime = state.timeOfNick(left, nick);
                int rightTime = state.timeOfNick(right, nick);
                if (leftTime != ABSENT && rightTime != ABSENT) {
                    kills += survivor(leftTime, rightTime) == ABSENT ? 2 : 1;
                }
            }
            return kills;
        }

        static void settleNicks(State state, int first, int second) {
            int left = state.networkOf(first);
            int right = state.networkOf(second);
            for (int nick = 0; nick < NICKS; nick++) {
                int leftHome = state.homeIn(left, nick);
                int rightHome = state.homeIn(right, nick);
                if (leftHome != ABSENT && rightHome != ABSENT) {
                    settleCollision(state, nick, leftHome, rightHome);
                }
            }
        }

        private static void settleCollision(State state, int nick, int leftHome, int rightHome) {
            int leftTime = state.timeOfUser(leftHome, nick);
            int rightTime = state.timeOfUser(rightHome, nick);
            int stays = survivor(leftTime, rightTime);
            if (leftTime != stays) {
                state.removeUser(leftHome, nick);
            }
            if (rightTime != stays) {
                state.removeUser(rightHome, nick);
            }
        }

        static void settleChannels(State state, int first, int second) {
            state.deprived = 0;
            state.dropped = 0;
            for (int channel = 0; channel < CHANNELS; channel++) {
                boolean inFirst = state.hasChannel(first, channel);
                boolean inSecond = state.hasChannel(second, channel);
                if (inFirst && inSecond) {
                    uniteChannels(state, first, second, channel);
                } else if (inFirst) {
                    tellOfChannel(state, first, state.networkOf(second), channel);
                } else if (inSecond) {
                    tellOfChannel(state, second, state.networkOf(first), channel);
                }
            }
        }

        private static void uniteChannels(State state, int first, int second, int channel) {
            int firstTime = state.timeOfChannel(first, channel);
            int secondTime = state.timeOfChannel(second, channel);
            if (firstTime < secondTime) {
                overruleChannel(state, first, second, channel);
            } else if (secondTime < firstTime) {
                overruleChannel(state, second, first, channel);
            } else {
                int both = state.modesOfChannel(first, channel)
                        | state.modesOfChannel(second, channel);
                state.describeChannel(state.networkOf(first), channel, firstTime, both);
                state.describeChannel(state.networkOf(second), channel, firstTime, both);
            }
        }

        private static void overruleChannel(State state, int older, int younger, int channel) {
            int network = state.networkOf(younger);
            state.deprived += Integer.bitCount(state.operatorsIn(network, channel));
            state.dropped += Integer.bitCount(state.modesOfChannel(younger, channel));
            state.setOperators(network, channel, 0);
            tellOfChannel(state, older, network, channel);
        }

        /** The network takes over what a server of the other one knows of a channel. */
        private static void tellOfChannel(State state, int server, int network, int channel) {
            state.describeChannel(network, channel,
                    state.timeOfChannel(server, channel), state.modesOfChannel(server, channel));
        }
    }

    /** The buffer of applyModes and the grammar of its text. */
    private static final class ModeText {
        private static final int NO_ERROR = -1;
        private static final String MODE_LETTERS = "imnpst";
        // What the text has come to: the place decides which character may follow.
        private static final int REFUSED = 0;
        private static final int AT_START = 1;
        private static final int AFTER_SIGN = 2;
        private static final int AFTER_ITEM = 3;
        private static final int AFTER_O = 4;

        private final char[] characters = new char[TEXT_CAPACITY];
        private int length = 0;

        boolean isFull() {
            return length >= TEXT_CAPACITY;
        }

        void add(char character) {
            if (!isFull()) {
                characters[length] = character;
                length++;
            }
        }

        void empty() {
            length = 0;
        }

        int errorOffset(int memberSet) {
            int place = AT_START;
            for (int offset = 0; offset < length; offset++) {
                place = placeAfter(place, characters[offset], memberSet);
                if (place == REFUSED) {
                    return offset;
                }
            }
            return place == AFTER_ITEM ? NO_ERROR : length;
        }

        private static int placeAfter(int place, char character, int memberSet) {
            if (place == AFTER_O) {
                boolean named = isDigit(character) && hasBit(memberSet, character - '0');
                return named ? AFTER_ITEM : REFUSED;
            }
            if (isSign(character)) {
                return place == AFTER_SIGN ? REFUSED : AFTER_SIGN;
            }
            if (place == AT_START) {
                return REFUSED;
            }
            if (character == 'o') {
                return AFTER_O;
            }
            return MODE_LETTERS.indexOf(character) >= 0 ? AFTER_ITEM : REFUSED;
        }

        // The three below are asked only of a text without error, where a digit always ends an o.

        int modesAfter(int modeSet) {
            int result = modeSet;
            boolean setting = false;
            for (int offset = 0; offset < length; offset++) {
                char character = characters[offset];
                int mode = MODE_LETTERS.indexOf(character);
                if (isSign(character)) {
                    setting = character == '+';
                } else if (mode >= 0) {
                    result = withBit(result, mode, setting);
                }
            }
            return result;
        }

        int operatorsAfter(int operatorSet) {
            int result = operatorSet;
            boolean setting = false;
            for (int offset = 0; offset < length; offset++) {
                char character = characters[offset];
                if (isSign(character)) {
                    setting = character == '+';
                } else if (isDigit(character)) {
                    result = withBit(result, character - '0', setting);
                }
            }
            return result;
        }

        int countItems() {
            int items = 0;
            for (int offset = 0; offset < length; offset++) {
                char character = characters[offset];
                if (!isSign(character) && !isDigit(character)) {
                    items++;
                }
            }
            return items;
        }

        private static boolean isSign(char character) {
            return character == '+' || character == '-';
        }

        private static boolean isDigit(char character) {
            return character >= '0' && character <= '9';
        }
    }

    /** The states before the latest edits, in a ring whose rows are used again. */
    private static final class History {
        private final State[] rows = new State[UNDO_DEPTH];
        private int next = 0;
        private int count = 0;

        History() {
            for (int row = 0; row < UNDO_DEPTH; row++) {
                rows[row] = new State();
            }
        }

        void keep(State state) {
            State row = rows[next];
            if (row != null) {
                row.copyFrom(state);
            }
            next = next == UNDO_DEPTH - 1 ? 0 : next + 1;
            count = Math.min(count + 1, UNDO_DEPTH);
        }

        void takeBack(State state) {
            next = next == 0 ? UNDO_DEPTH - 1 : next - 1;
            count = Math.max(count - 1, 0);
            State row = rows[next];
            if (row != null) {
                state.copyFrom(row);
            }
        }
    }

    /**
     * Looks for the plan with the fewest kills. Every user is either killed or left at the end,
     * so this is the plan that leaves the most users, which is at most one for each nick.
     */
    private static final class PlanSearch {
        /** times[depth] has, after depth links, the timestamps of each network's ten nicks. */
        private final int[][] times = new int[MAX_SERVERS][MAX_SERVERS * NICKS];
        private final int[] representatives = new int[MAX_SERVERS];
        private int opening = NONE;
        private int bestOpening = NONE;
        private int bestSurvivors = 0;

        void findBest(State state) {
            opening = NONE;
            bestSurvivors = -1;
            search(0, load(state));
        }

        private int load(State state) {
            int networks = 0;
            int seen = 0;
            for (int server = 0; server < MAX_SERVERS; server++) {
                if (state.hasServer(server) && !hasBit(seen, server)) {
                    int network = state.networkOf(server);
                    for (int nick = 0; nick < NICKS; nick++) {
                        times[0][networks * NICKS + nick] = state.timeOfNick(network, nick);
                    }
                    representatives[networks] = server;
                    networks++;
                    seen |= network;
                }
            }
            return networks;
        }

        private void search(int depth, int networks) {
            if (depth >= MAX_SERVERS) {
                return;
            }
            int hope = countHopes(times[depth], networks);
            // A later plan that is only as good must not replace the first link found so far.
            if (hope <= bestSurvivors) {
                return;
            }
            if (networks > 1) {
                tryLinks(depth, networks);
            } else {
                bestSurvivors = hope;
                bestOpening = opening;
            }
        }

        private void tryLinks(int depth, int networks) {
            for (int left = 0; left < networks; left++) {
                for (int right = left + 1; right < networks; right++) {
                    if (depth == 0) {
                        opening = 10 * representatives[left] + representatives[right];
                    }
                    if (depth + 1 < MAX_SERVERS) {
                        mergeRows(times[depth], times[depth + 1], networks, left, right);
                        search(depth + 1, networks - 1);
                    }
                }
            }
        }

        /** Writes the networks after the link: left stands for both, and right is gone. */
        private static void mergeRows(int[] from, int[] to, int networks, int left, int right) {
            int place = 0;
            for (int network = 0; network < networks; network++) {
                if (network != right) {
                    System.arraycopy(from, network * NICKS, to, place * NICKS, NICKS);
                    place++;
                }
            }
            for (int nick = 0; nick < NICKS; nick++) {
                to[left * NICKS + nick] =
                        Merge.survivor(from[left * NICKS + nick], from[right * NICKS + nick]);
            }
        }

        private static int countHopes(int[] row, int networks) {
            int hopes = 0;
            for (int nick = 0; nick < NICKS; nick++) {
                if (mayBeLeft(row, networks, nick)) {
                    hopes++;
                }
            }
            return hopes;
        }

        /** Users of equal timestamps die in pairs, so an even number of them leaves nobody. */
        private static boolean mayBeLeft(int[] row, int networks, int nick) {
            int users = 0;
            int stamp = ABSENT;
            boolean differ = false;
            for (int network = 0; network < networks; network++) {
                int other = row[network * NICKS + nick];
                if (other != ABSENT) {
                    differ = differ || users > 0 && other != stamp;
                    stamp = other;
                    users++;
                }
            }
            return differ || (users & 1) != 0;
        }
    }
}
