import java.util.ArrayDeque;
import java.util.ArrayList;
import java.util.Deque;
import java.util.List;
import java.util.Map;
import java.util.TreeMap;
import java.util.TreeSet;
import java.util.regex.Pattern;

/**
 * A second, slow reading of the document, written apart from the class: networks are objects that
 * are merged and split, texts are read by trying all that may follow, plans are all tried.
 */
final class Model {
    static final class User {
        final int home;
        final int stamp;

        User(int home, int stamp) {
            this.home = home;
            this.stamp = stamp;
        }
    }

    static final class Channel {
        int stamp;
        final TreeSet<Integer> modes = new TreeSet<>();
        final TreeSet<Integer> members = new TreeSet<>();
        final TreeSet<Integer> operators = new TreeSet<>();

        Channel copy() {
            Channel copy = new Channel();
            copy.stamp = stamp;
            copy.modes.addAll(modes);
            copy.members.addAll(members);
            copy.operators.addAll(operators);
            return copy;
        }
    }

    static final class Net {
        final TreeSet<Integer> servers = new TreeSet<>();
        final TreeMap<Integer, User> users = new TreeMap<>();
        final TreeMap<Integer, Channel> channels = new TreeMap<>();

        Net copy() {
            Net copy = new Net();
            copy.servers.addAll(servers);
            copy.users.putAll(users);
            for (Map.Entry<Integer, Channel> entry : channels.entrySet()) {
                copy.channels.put(entry.getKey(), entry.getValue().copy());
            }
            return copy;
        }

        void drop(int nick) {
            users.remove(nick);
            for (Channel channel : channels.values()) {
                channel.members.remove(nick);
                channel.operators.remove(nick);
            }
            channels.values().removeIf(channel -> channel.members.isEmpty());
        }
    }

    static final class World {
        int count = 1;
        int clock = 0;
        int deprived = 0;
        int dropped = 0;
        final List<Net> nets = new ArrayList<>();
        final TreeSet<String> links = new TreeSet<>();

        World copy() {
            World copy = new World();
            copy.count = count;
            copy.clock = clock;
            copy.deprived = deprived;
            copy.dropped = dropped;
            for (Net net : nets) {
                copy.nets.add(net.copy());
            }
            copy.links.addAll(links);
            return copy;
        }
    }

    private World world = bare(1);
    private final Deque<World> past = new ArrayDeque<>();
    private String text = "";

    private static World bare(int count) {
        World world = new World();
        world.count = count;
        for (int server = 0; server < count; server++) {
            Net net = new Net();
            net.servers.add(server);
            world.nets.add(net);
        }
        return world;
    }

    private void edit() {
        past.push(world.copy());
        if (past.size() > 8) {
            past.removeLast();
        }
    }

    private boolean server(int server) {
        return 0 <= server && server < world.count;
    }

    private static boolean nick(int nick) {
        return 0 <= nick && nick <= 9;
    }

    private static boolean channel(int channel) {
        return 0 <= channel && channel <= 3;
    }

    private Net net(int server) {
        for (Net net : world.nets) {
            if (net.servers.contains(server)) {
                return net;
            }
        }
        throw new IllegalStateException("no network of " + server);
    }

    private boolean user(int server, int nick) {
        User user = net(server).users.get(nick);
        return user != null && user.home == server;
    }

    private static String link(int first, int second) {
        return Math.min(first, second) + "-" + Math.max(first, second);
    }

    private static int bits(Iterable<Integer> set) {
        int bits = 0;
        for (int bit : set) {
            bits += 1 << bit;
        }
        return bits;
    }

    int createServers(int count) {
        if (count < 1 || count > 6) {
            return -1;
        }
        int users = 0;
        for (Net net : world.nets) {
            users += net.users.size();
        }
        edit();
        world = bare(count);
        return users;
    }

    int connect(int first, int second) {
        if (!server(first) || !server(second) || first == second) {
            return -1;
        }
        Net left = net(first);
        Net right = net(second);
        if (left == right) {
            return -2;
        }
        edit();
        int before = left.users.size() + right.users.size();
        for (int nick = 0; nick < 10; nick++) {
            User one = left.users.get(nick);
            User two = right.users.get(nick);
            if (one != null && two != null) {
                if (one.stamp >= two.stamp) {
                    left.drop(nick);
                }
                if (two.stamp >= one.stamp) {
                    right.drop(nick);
                }
            }
        }
        int after = left.users.size() + right.users.size();
        world.deprived = 0;
        world.dropped = 0;
        left.users.putAll(right.users);
        left.servers.addAll(right.servers);
        for (int name = 0; name < 4; name++) {
            Channel one = left.channels.get(name);
            Channel two = right.channels.get(name);
            if (one == null && two != null) {
                left.channels.put(name, two);
            } else if (one != null && two != null) {
                left.channels.put(name, merged(one, two));
            }
        }
        world.nets.remove(right);
        world.links.add(link(first, second));
        return before - after;
    }

    private Channel merged(Channel one, Channel two) {
        if (one.stamp > two.stamp) {
            return merged(two, one);
        }
        Channel result = one.copy();
        result.members.addAll(two.members);
        if (one.stamp == two.stamp) {
            result.modes.addAll(two.modes);
            result.operators.addAll(two.operators);
        } else {
            world.deprived += two.operators.size();
            world.dropped += two.modes.size();
        }
        return result;
    }

    int disconnect(int first, int second) {
        if (!server(first) || !server(second) || first == second) {
            return -1;
        }
        if (!world.links.contains(link(first, second))) {
            return -2;
        }
        edit();
        world.links.remove(link(first, second));
        Net whole = net(first);
        world.nets.remove(whole);
        for (int side : new int[] {first, second}) {
            Net part = whole.copy();
            part.servers.removeIf(server -> distance(side, server, -1) < 0);
            for (int nick = 0; nick < 10; nick++) {
                if (part.users.containsKey(nick)
                        && !part.servers.contains(part.users.get(nick).home)) {
                    part.drop(nick);
                }
            }
            world.nets.add(part);
        }
        return net(first).servers.size();
    }

    private int distance(int from, int to, int cameFrom) {
        if (from == to) {
            return 0;
        }
        for (int next = 0; next < world.count; next++) {
            if (next != cameFrom && next != from && world.links.contains(link(from, next))) {
                int rest = distance(next, to, from);
                if (rest >= 0) {
                    return rest + 1;
                }
            }
        }
        return -1;
    }

    int advance(int ticks) {
        if (ticks < 1 || ticks > 999) {
            return -1;
        }
        if (world.clock + ticks > 9999) {
            return -3;
        }
        edit();
        return world.clock += ticks;
    }

    int time() {
        return world.clock;
    }

    int hops(int first, int second) {
        if (!server(first) || !server(second)) {
            return -1;
        }
        int distance = distance(first, second, -1);
        return distance < 0 ? -9 : distance;
    }

    int signOn(int server, int nick) {
        if (!server(server) || !nick(nick)) {
            return -1;
        }
        if (net(server).users.containsKey(nick)) {
            return -2;
        }
        edit();
        net(server).users.put(nick, new User(server, world.clock));
        return net(server).users.size();
    }

    int signOff(int server, int nick) {
        if (!server(server) || !nick(nick)) {
            return -1;
        }
        if (!user(server, nick)) {
            return -2;
        }
        edit();
        int left = 0;
        for (Channel channel : net(server).channels.values()) {
            left += channel.members.contains(nick) ? 1 : 0;
        }
        net(server).drop(nick);
        return left;
    }

    int changeNick(int server, int nick, int newNick) {
        if (!server(server) || !nick(nick) || !nick(newNick)) {
            return -1;
        }
        if (!user(server, nick) || net(server).users.containsKey(newNick)) {
            return -2;
        }
        edit();
        Net net = net(server);
        int stamp = net.users.get(nick).stamp;
        net.users.remove(nick);
        net.users.put(newNick, new User(server, world.clock));
        for (Channel channel : net.channels.values()) {
            if (channel.members.remove(nick)) {
                channel.members.add(newNick);
            }
            if (channel.operators.remove(nick)) {
                channel.operators.add(newNick);
            }
        }
        return stamp;
    }

    int homeServer(int server, int nick) {
        if (!server(server) || !nick(nick)) {
            return -1;
        }
        User user = net(server).users.get(nick);
        return user == null ? -9 : user.home;
    }

    int userTimestamp(int server, int nick) {
        if (!server(server) || !nick(nick)) {
            return -1;
        }
        User user = net(server).users.get(nick);
        return user == null ? -9 : user.stamp;
    }

    int visibleUsers(int server) {
        return server(server) ? bits(net(server).users.keySet()) : -1;
    }

    int join(int server, int nick, int channel) {
        if (!server(server) || !nick(nick) || !channel(channel)) {
            return -1;
        }
        Channel there = net(server).channels.get(channel);
        if (!user(server, nick) || there != null && there.members.contains(nick)) {
            return -2;
        }
        edit();
        if (there == null) {
            there = new Channel();
            there.stamp = world.clock;
            there.operators.add(nick);
            net(server).channels.put(channel, there);
        }
        there.members.add(nick);
        return there.members.size();
    }

    int part(int server, int nick, int channel) {
        if (!server(server) || !nick(nick) || !channel(channel)) {
            return -1;
        }
        Channel there = net(server).channels.get(channel);
        if (!user(server, nick) || there == null || !there.members.contains(nick)) {
            return -2;
        }
        return leave(server, nick, channel);
    }

    int kick(int server, int nick, int channel, int target) {
        if (!server(server) || !nick(nick) || !channel(channel) || !nick(target)) {
            return -1;
        }
        Channel there = net(server).channels.get(channel);
        if (!user(server, nick) || there == null || !there.operators.contains(nick)
                || !there.members.contains(target)) {
            return -2;
        }
        return leave(server, target, channel);
    }

    private int leave(int server, int nick, int channel) {
        edit();
        Net net = net(server);
        Channel there = net.channels.get(channel);
        there.members.remove(nick);
        there.operators.remove(nick);
        if (there.members.isEmpty()) {
            net.channels.remove(channel);
        }
        return there.members.size();
    }

    int appendCharacter(int character) {
        if (character < 0 || character > 255) {
            return -1;
        }
        if (text.length() == 40) {
            return -3;
        }
        text += (char) character;
        return text.length();
    }

    int clearText() {
        int length = text.length();
        text = "";
        return length;
    }

    int applyModes(int server, int nick, int channel) {
        if (!server(server) || !nick(nick) || !channel(channel)) {
            return -1;
        }
        Channel there = net(server).channels.get(channel);
        if (!user(server, nick) || there == null || !there.operators.contains(nick)) {
            return -2;
        }
        StringBuilder digits = new StringBuilder();
        for (int member : there.members) {
            digits.append(member);
        }
        String item = "([imnpst]|o[" + digits + "])";
        Pattern whole = Pattern.compile("([+-]" + item + "+)+");
        if (!whole.matcher(text).matches()) {
            return -10 - goodLength(whole, digits.charAt(0));
        }
        edit();
        int items = 0;
        boolean set = true;
        for (int k = 0; k < text.length(); k++) {
            char sign = text.charAt(k);
            if (sign == '+' || sign == '-') {
                set = sign == '+';
                continue;
            }
            items++;
            TreeSet<Integer> target = there.modes;
            int element = "imnpst".indexOf(sign);
            if (sign == 'o') {
                k++;
                target = there.operators;
                element = text.charAt(k) - '0';
            }
            if (set) {
                target.add(element);
            } else {
                target.remove(element);
            }
        }
        text = "";
        return items;
    }

    /** The length of the longest beginning of the text that some ending makes right. */
    private int goodLength(Pattern whole, char digit) {
        String[] endings = {"", "i", String.valueOf(digit), "+i"};
        for (int length = text.length(); length > 0; length--) {
            for (String ending : endings) {
                if (whole.matcher(text.substring(0, length) + ending).matches()) {
                    return length;
                }
            }
        }
        return 0;
    }

    int members(int server, int channel) {
        if (!server(server) || !channel(channel)) {
            return -1;
        }
        Channel there = net(server).channels.get(channel);
        return there == null ? 0 : bits(there.members);
    }

    int operators(int server, int channel) {
        if (!server(server) || !channel(channel)) {
            return -1;
        }
        Channel there = net(server).channels.get(channel);
        return there == null ? 0 : bits(there.operators);
    }

    int modes(int server, int channel) {
        if (!server(server) || !channel(channel)) {
            return -1;
        }
        Channel there = net(server).channels.get(channel);
        return there == null ? -9 : bits(there.modes);
    }

    int channelTimestamp(int server, int channel) {
        if (!server(server) || !channel(channel)) {
            return -1;
        }
        Channel there = net(server).channels.get(channel);
        return there == null ? -9 : there.stamp;
    }

    int lastDeprived() {
        return world.deprived;
    }

    int lastDropped() {
        return world.dropped;
    }

    int burstSize(int first, int second) {
        if (!server(first) || !server(second)) {
            return -1;
        }
        if (net(first) == net(second)) {
            return -2;
        }
        int size = 0;
        for (Net net : List.of(net(first), net(second))) {
            size += net.servers.size() + net.users.size();
            for (Channel channel : net.channels.values()) {
                size += channel.members.size() + channel.modes.size();
            }
        }
        return size;
    }

    int killsIfConnected(int first, int second) {
        if (!server(first) || !server(second)) {
            return -1;
        }
        if (net(first) == net(second)) {
            return -2;
        }
        Model trial = trial();
        return trial.connect(first, second);
    }

    private Model trial() {
        Model trial = new Model();
        trial.world = world.copy();
        return trial;
    }

    private int outside() {
        int outside = 0;
        for (Net net : world.nets) {
            outside += net.servers.contains(0) ? 0 : net.users.size();
        }
        return outside;
    }

    int lostIfDisconnected(int first, int second) {
        if (!server(first) || !server(second)) {
            return -1;
        }
        if (first == second || !world.links.contains(link(first, second))) {
            return -2;
        }
        Model trial = trial();
        trial.disconnect(first, second);
        return trial.outside() - outside();
    }

    int fewestKills() {
        return bestPlan(nickTables())[0];
    }

    int bestFirstLink() {
        if (world.nets.size() == 1) {
            return -9;
        }
        int[] best = bestPlan(nickTables());
        TreeSet<Integer> heads = new TreeSet<>();
        for (Net net : world.nets) {
            heads.add(net.servers.first());
        }
        List<Integer> sorted = new ArrayList<>(heads);
        return 10 * sorted.get(best[1]) + sorted.get(best[2]);
    }

    private List<TreeMap<Integer, Integer>> nickTables() {
        TreeMap<Integer, TreeMap<Integer, Integer>> byHead = new TreeMap<>();
        for (Net net : world.nets) {
            TreeMap<Integer, Integer> table = new TreeMap<>();
            for (Map.Entry<Integer, User> entry : net.users.entrySet()) {
                table.put(entry.getKey(), entry.getValue().stamp);
            }
            byHead.put(net.servers.first(), table);
        }
        return new ArrayList<>(byHead.values());
    }

    /** The fewest kills, and the first pair in order with which they can be reached. */
    private static int[] bestPlan(List<TreeMap<Integer, Integer>> tables) {
        if (tables.size() == 1) {
            return new int[] {0, 0, 0};
        }
        int[] best = null;
        for (int left = 0; left < tables.size(); left++) {
            for (int right = left + 1; right < tables.size(); right++) {
                TreeMap<Integer, Integer> merged = new TreeMap<>(tables.get(left));
                int kills = 0;
                for (Map.Entry<Integer, Integer> entry : tables.get(right).entrySet()) {
                    Integer other = merged.get(entry.getKey());
                    if (other == null) {
                        merged.put(entry.getKey(), entry.getValue());
                    } else if (other.intValue() == entry.getValue().intValue()) {
                        merged.remove(entry.getKey());
                        kills += 2;
                    } else {
                        merged.put(entry.getKey(), Math.min(other, entry.getValue()));
                        kills++;
                    }
                }
                List<TreeMap<Integer, Integer>> rest = new ArrayList<>(tables);
                rest.remove(right);
                rest.set(left, merged);
                int all = kills + bestPlan(rest)[0];
                if (best == null || all < best[0]) {
                    best = new int[] {all, left, right};
                }
            }
        }
        return best;
    }

    int undo() {
        if (past.isEmpty()) {
            return -2;
        }
        world = past.pop();
        return past.size();
    }
}
