/** Servers, links, the clock, users, channels and splits in the "Description". */
final class DescriptionOfNetworks {
    private final Boundary boundary;

    DescriptionOfNetworks(Boundary boundary) {
        this.boundary = boundary;
    }

    void check() {
        servers();
        views();
        clock();
        users();
        channels();
        sets();
        members();
        lastMember();
        splits();
    }

    /** The row for each of the six servers, with its number at the question mark. */
    static String everywhere(String row) {
        StringBuilder rows = new StringBuilder();
        for (int server = 0; server < 6; server++) {
            rows.append(row.replace("?", Integer.toString(server)));
        }
        return rows.toString();
    }

    private void servers() {
        boundary.description("There are 1 to 6 servers, numbered from 0; initially there is 1");
        boundary.run("visibleUsers(-1) = -1; visibleUsers(0) = 0; visibleUsers(1) = -1;"
                + "createServers(0) = -1; createServers(1) = 0; visibleUsers(0) = 0;"
                + "visibleUsers(1) = -1; createServers(7) = -1; createServers(6) = 0;"
                + everywhere("visibleUsers(?) = 0;") + "visibleUsers(6) = -1;"
                + "visibleUsers(-1) = -1");

        boundary.description("Two servers can be linked directly");
        for (int first = 0; first < 6; first++) {
            for (int second = 0; second < 6; second++) {
                boundary.run("createServers(6) = 0; connect(" + first + "," + second + ") = "
                        + (first == second ? "-1" : "0; hops(" + second + "," + first + ") = 1"));
            }
        }

        boundary.description("The links never form a cycle");
        boundary.run(Rows.chain(2) + "connect(1,0) = -2; connect(0,1) = -2; connect(0,0) = -1");
        boundary.run(Rows.chain(3) + "connect(0,2) = -2; connect(2,0) = -2; hops(0,2) = 2");
        boundary.run(Rows.chain(6) + "connect(5,0) = -2; connect(0,5) = -2; disconnect(0,1) = 1;"
                + "connect(5,0) = 0; connect(0,1) = -2; hops(0,1) = 5");

        boundary.description("Servers that are connected by links, directly or through other"
                + " servers, form a network; a server without links is a network of its own");
        boundary.run(Rows.chain(6) + "signOn(0,0) = 1;" + everywhere("visibleUsers(?) = 1;")
                + "disconnect(4,5) = 5; visibleUsers(4) = 1; visibleUsers(5) = 0;"
                + "bestFirstLink() = 5; disconnect(0,1) = 1; visibleUsers(0) = 1;"
                + "visibleUsers(1) = 0");
        boundary.run("createServers(6) = 0;" + everywhere("signOn(?,9) = 1;")
                + everywhere("homeServer(?,9) = ?;"));
    }

    private void views() {
        boundary.description("All servers of a network have the same view of users and channels at"
                + " every moment");
        boundary.run(Rows.chain(6) + "signOn(0,0) = 1;" + everywhere("visibleUsers(?) = 1;")
                + "advance(1) = 1; signOn(5,9) = 2;" + everywhere("userTimestamp(?,9) = 1;")
                + everywhere("homeServer(?,9) = 5;") + "join(5,9,3) = 1;"
                + everywhere("members(?,3) = 512;") + everywhere("operators(?,3) = 512;")
                + everywhere("channelTimestamp(?,3) = 1;") + "'+t'; applyModes(5,9,3) = 1;"
                + everywhere("modes(?,3) = 32;") + "join(0,0,3) = 2;"
                + everywhere("members(?,3) = 513;") + "'+o0'; applyModes(5,9,3) = 1;"
                + everywhere("operators(?,3) = 513;"));
        boundary.run(Rows.chain(6) + "signOn(0,0) = 1; signOn(5,9) = 2; join(0,0,3) = 1;"
                + "join(5,9,3) = 2; kick(0,0,3,9) = 1;" + everywhere("members(?,3) = 1;")
                + "changeNick(0,0,4) = 0;" + everywhere("operators(?,3) = 16;")
                + everywhere("visibleUsers(?) = 528;") + "part(0,4,3) = 0;"
                + everywhere("modes(?,3) = -9;") + "signOff(5,9) = 0;"
                + everywhere("visibleUsers(?) = 16;") + everywhere("homeServer(?,9) = -9;"));

        boundary.description("Servers of different networks know nothing of each other");
        boundary.run("createServers(2) = 0; signOn(0,0) = 1; join(0,0,0) = 1; visibleUsers(1) = 0;"
                + "homeServer(1,0) = -9; userTimestamp(1,0) = -9; members(1,0) = 0;"
                + "operators(1,0) = 0; modes(1,0) = -9; channelTimestamp(1,0) = -9;"
                + "signOff(1,0) = -2; connect(0,1) = 0; members(1,0) = 1; disconnect(0,1) = 1;"
                + "members(1,0) = 0; visibleUsers(1) = 0");
    }

    private void clock() {
        boundary.description("There is one clock for all servers");
        boundary.run("createServers(6) = 0; advance(7) = 7;" + everywhere("signOn(?,0) = 1;")
                + everywhere("userTimestamp(?,0) = 7;"));

        boundary.description("It shows 0 at first and 9999 at most, and only advance() changes it");
        boundary.run("time() = 0;" + Rows.clock(0, 9998) + "advance(2) = -3; time() = 9998;"
                + "advance(1) = 9999; time() = 9999; advance(1) = -3; time() = 9999");
        // No other call does, but for createServers and undo, as their promises say.
        boundary.run("createServers(2) = 0; advance(5) = 5; signOn(0,0) = 1; time() = 5;"
                + "signOn(1,1) = 1; time() = 5; changeNick(0,0,2) = 5; time() = 5;"
                + "connect(0,1) = 0; time() = 5; join(0,2,0) = 1; time() = 5; join(1,1,0) = 2;"
                + "time() = 5; '+i'; applyModes(0,2,0) = 1; time() = 5; kick(0,2,0,1) = 1;"
                + "time() = 5; part(0,2,0) = 0; time() = 5; signOff(0,2) = 0; time() = 5;"
                + "disconnect(0,1) = 1; time() = 5; fewestKills() = 0; bestFirstLink() = 1;"
                + "burstSize(0,1) = 3; clearText() = 0; time() = 5; undo() = 7; time() = 5");
    }

    private void users() {
        boundary.description("A user has a nick (0 to 9), a home server, and a timestamp");
        boundary.run("createServers(6) = 0; signOn(0,-1) = -1; signOn(0,0) = 1; signOn(5,10) = -1;"
                + "signOn(5,9) = 1; homeServer(5,9) = 5; homeServer(0,0) = 0;"
                + "userTimestamp(5,9) = 0;" + Rows.clock(0, 9999) + "signOn(5,0) = 2;"
                + "userTimestamp(5,0) = 9999; userTimestamp(5,9) = 0");

        boundary.description("In a network each nick is used by at most one user");
        boundary.run(Rows.chain(6) + "signOn(3,9) = 1;" + everywhere("signOn(?,9) = -2;")
                + "signOff(3,9) = 0; signOn(0,9) = 1; signOn(3,9) = -2");
        boundary.run(Rows.chain(2) + Rows.crowd(1) + "visibleUsers(0) = 1023; signOn(0,0) = -2;"
                + "signOn(0,9) = -2; changeNick(1,0,9) = -2");

        boundary.description("The same nick may be used in different networks");
        boundary.run("createServers(6) = 0;" + everywhere("signOn(?,0) = 1;")
                + everywhere("signOn(?,9) = 2;") + everywhere("homeServer(?,9) = ?;")
                + "createServers(6) = 12");

        boundary.description("A user is named in a call by a server and a nick: this means the user"
                + " with this nick whose home server is this server");
        boundary.run(Rows.chain(6) + "signOn(5,9) = 1; join(5,9,0) = 1; signOff(4,9) = -2;"
                + "signOff(0,9) = -2; changeNick(4,9,1) = -2; join(4,9,1) = -2; part(4,9,0) = -2;"
                + "kick(4,9,0,9) = -2; '+i'; applyModes(4,9,0) = -2; applyModes(5,9,0) = 1;"
                + "join(5,9,1) = 1; part(5,9,1) = 0; kick(5,9,0,9) = 0; changeNick(5,9,1) = 0;"
                + "signOff(4,1) = -2; signOff(5,1) = 0");
        // Of two users with this nick it is the one of the server that is named.
        boundary.run("createServers(2) = 0; signOn(0,9) = 1; signOn(1,9) = 1; join(1,9,2) = 1;"
                + "members(0,2) = 0; signOff(1,9) = 1; visibleUsers(0) = 512;"
                + "visibleUsers(1) = 0; signOff(1,9) = -2");
    }

    private void channels() {
        boundary.description("There are four channel names, 0 to 3");
        boundary.run(Rows.founder(0) + "join(0,0,-1) = -1; join(0,0,4) = -1; members(0,-1) = -1;"
                + "members(0,0) = 1; members(0,3) = 1; members(0,4) = -1; signOff(0,0) = 4");

        boundary.description("In a network, a channel exists if it has at least one member");
        boundary.run("modes(0,0) = -9; channelTimestamp(0,0) = -9; signOn(0,0) = 1;"
                + "modes(0,0) = -9; join(0,0,0) = 1; modes(0,0) = 0; channelTimestamp(0,0) = 0;"
                + "signOn(0,1) = 2; join(0,1,0) = 2; part(0,0,0) = 1; modes(0,0) = 0;"
                + "part(0,1,0) = 0; modes(0,0) = -9; channelTimestamp(0,0) = -9");

        boundary.description("It has a timestamp, a set of modes, and members, which are users of"
                + " the network; some of the members are operators");
        // All members may be operators, and none.
        boundary.run(Rows.crowd(0) + Rows.joins(0, 0, 9, 3) + "operators(0,3) = 1;"
                + "'+o1o2o3o4o5o6o7o8o9'; applyModes(0,0,3) = 9; operators(0,3) = 1023;"
                + "members(0,3) = 1023; '-o0o1o2o3o4o5o6o7o8o9'; applyModes(0,0,3) = 10;"
                + "operators(0,3) = 0; members(0,3) = 1023; modes(0,3) = 0;"
                + "channelTimestamp(0,3) = 0; kick(0,0,3,0) = -2");

        boundary.description("A channel of the same name in another network is another channel");
        boundary.run("createServers(6) = 0;" + everywhere("signOn(?,9) = 1;")
                + everywhere("join(?,9,3) = 1;") + "'+imnpst'; applyModes(5,9,3) = 6;"
                + "modes(5,3) = 63; modes(0,3) = 0; modes(4,3) = 0; part(0,9,3) = 0;"
                + "modes(0,3) = -9; members(5,3) = 512; advance(1) = 1; join(0,9,3) = 1;"
                + "channelTimestamp(0,3) = 1; channelTimestamp(1,3) = 0; kick(4,9,3,9) = 0;"
                + "members(5,3) = 512");
    }

    private void sets() {
        boundary.description("There are six modes: i, m, n, p, s and t; they have the numbers 0 to"
                + " 5 in this order");
        String letters = "imnpst";
        for (int mode = 0; mode < 6; mode++) {
            boundary.run("signOn(0,0) = 1; join(0,0,0) = 1; '+" + letters.charAt(mode)
                    + "'; applyModes(0,0,0) = 1; modes(0,0) = " + (1 << mode) + "; '+imnpst-"
                    + letters.charAt(mode) + "'; applyModes(0,0,0) = 7; modes(0,0) = "
                    + (63 - (1 << mode)));
        }

        boundary.description("A set of modes is a bit set in which bit k stands for mode k; a set"
                + " of users is a bit set in which bit n stands for the user with nick n");
        for (int nick = 0; nick < 10; nick++) {
            boundary.run("signOn(0," + nick + ") = 1; visibleUsers(0) = " + (1 << nick) + "; join(0,"
                    + nick + ",0) = 1; members(0,0) = " + (1 << nick) + "; operators(0,0) = "
                    + (1 << nick));
        }
        boundary.run("visibleUsers(0) = 0; members(0,0) = 0; operators(0,0) = 0;" + Rows.crowd(0)
                + Rows.joins(0, 0, 9, 0) + "visibleUsers(0) = 1023; members(0,0) = 1023;"
                + "modes(0,0) = 0; '+imnpst'; applyModes(0,0,0) = 6; modes(0,0) = 63");
    }

    private void members() {
        boundary.description("When a user joins a channel that does not exist in the network, it is"
                + " created: its timestamp is the time of the clock, it has no modes, and the user"
                + " is an operator");
        boundary.run("signOn(0,9) = 1; join(0,9,0) = 1; channelTimestamp(0,0) = 0; modes(0,0) = 0;"
                + "operators(0,0) = 512; '+imnpst'; applyModes(0,9,0) = 6; part(0,9,0) = 0;"
                + Rows.clock(0, 9999) + "join(0,9,0) = 1; channelTimestamp(0,0) = 9999;"
                + "modes(0,0) = 0; operators(0,0) = 512");
        // It may exist in the network next door, or have existed here before a split.
        boundary.run(Rows.chain(2) + "signOn(0,0) = 1; signOn(1,1) = 2; join(0,0,0) = 1; '+s';"
                + "applyModes(0,0,0) = 1; advance(1) = 1; disconnect(0,1) = 1; join(1,1,0) = 1;"
                + "channelTimestamp(1,0) = 1; modes(1,0) = 0; operators(1,0) = 2;"
                + "channelTimestamp(0,0) = 0; modes(0,0) = 16");

        boundary.description("A user who joins a channel that exists is no operator");
        boundary.run(Rows.founder(0) + "signOn(0,9) = 2; advance(1) = 1; join(0,9,0) = 2;"
                + "operators(0,0) = 1; channelTimestamp(0,0) = 0; part(0,0,0) = 1;"
                + "operators(0,0) = 0; join(0,0,0) = 2; operators(0,0) = 0;"
                + "applyModes(0,0,0) = -2; kick(0,0,0,9) = -2; part(0,0,0) = 1; part(0,9,0) = 0;"
                + "join(0,9,0) = 1; operators(0,0) = 512");
    }

    private void lastMember() {
        boundary.description("When the last member leaves, the channel ceases to exist");
        String two = "createServers(2) = 0; signOn(0,0) = 1; signOn(0,1) = 2; join(0,0,3) = 1;"
                + "join(0,1,3) = 2; '+s'; applyModes(0,0,3) = 1;";
        String stands = "modes(0,3) = 16; channelTimestamp(0,3) = 0;";
        String gone = "modes(0,3) = -9; channelTimestamp(0,3) = -9; members(0,3) = 0;"
                + "operators(0,3) = 0;";
        boundary.run(two + "part(0,1,3) = 1;" + stands + "part(0,0,3) = 0;" + gone);
        boundary.run(two + "kick(0,0,3,1) = 1;" + stands + "kick(0,0,3,0) = 0;" + gone);
        boundary.run(two + "signOff(0,0) = 1;" + stands + "signOff(0,1) = 1;" + gone + "undo() = 7;"
                + stands + "members(0,3) = 2");
        boundary.run(two + "signOn(1,0) = 1; connect(0,1) = 2;" + stands + "members(1,3) = 2;"
                + "disconnect(0,1) = 1; signOn(1,1) = 1; connect(0,1) = 2;" + gone);

        boundary.description("A user who leaves the network leaves all channels");
        boundary.run(Rows.founder(0) + "signOff(0,0) = 4; signOn(0,0) = 1; part(0,0,0) = -2;"
                + "part(0,0,3) = -2; signOff(0,0) = 0");
        boundary.run("createServers(2) = 0;" + Rows.founder(0) + "signOn(1,0) = 1;"
                + "connect(0,1) = 2; members(0,0) = 0; members(0,3) = 0; signOn(0,0) = 1;"
                + "part(0,0,3) = -2; signOff(0,0) = 0");
    }

    private void splits() {
        boundary.description("When a link is removed, its network splits into two networks");
        boundary.run(Rows.chain(6) + "bestFirstLink() = -9; disconnect(2,3) = 3;"
                + "bestFirstLink() = 3; hops(0,2) = 2; hops(3,5) = 2; hops(2,3) = -9;"
                + "hops(0,5) = -9");

        boundary.description("Each of them keeps the users whose home servers belong to it, with"
                + " their timestamps");
        boundary.run(Rows.chain(2) + "signOn(0,0) = 1;" + Rows.clock(0, 9999) + "signOn(1,9) = 2;"
                + "disconnect(0,1) = 1; visibleUsers(0) = 1; visibleUsers(1) = 512;"
                + "userTimestamp(0,0) = 0; userTimestamp(1,9) = 9999; homeServer(1,9) = 1");
        boundary.run(Rows.chain(2) + Rows.crowd(1) + "disconnect(0,1) = 1; visibleUsers(0) = 0;"
                + "visibleUsers(1) = 1023");

        boundary.description("A channel exists in each of the new networks in which it has members;"
                + " there it keeps its timestamp, its modes, and its members and operators among"
                + " the users of that network");
        String two = Rows.chain(2) + "signOn(0,0) = 1; signOn(1,9) = 2; join(0,0,0) = 1;"
                + "join(1,9,0) = 2; join(1,9,3) = 1; '+imnpst'; applyModes(0,0,0) = 6;"
                + "advance(1) = 1; disconnect(0,1) = 1;";
        boundary.run(two + "members(0,0) = 1; operators(0,0) = 1; modes(0,0) = 63;"
                + "channelTimestamp(0,0) = 0; members(1,0) = 512; operators(1,0) = 0;"
                + "modes(1,0) = 63; channelTimestamp(1,0) = 0; members(0,3) = 0; modes(0,3) = -9;"
                + "channelTimestamp(0,3) = -9; members(1,3) = 512; operators(1,3) = 512");
        // Apart, the two are changed on their own, and end on their own.
        boundary.run(two + "'-i'; applyModes(1,9,0) = -2; applyModes(0,0,0) = 1; modes(0,0) = 62;"
                + "modes(1,0) = 63; part(0,0,0) = 0; modes(0,0) = -9; modes(1,0) = 63;"
                + "join(0,0,0) = 1; channelTimestamp(0,0) = 1; channelTimestamp(1,0) = 0");
    }
}
