/** The boundary cases of promises 14 to 16 and 20 to 23, sentence by sentence. */
public final class BoundaryChannelsTest {
    private static final String EXISTING = "`server`: the number of an existing server";
    private static final String NICK = "`nick`: 0 to 9";
    private static final String CHANNEL = "`channel`: 0 to 3";
    private static final String AFTERWARDS = "Returns the number of members afterwards";
    private static final String WRONG_ARGUMENT = "INVALID_ARGUMENT if there is no such server,"
            + " or the nick or the channel is out of range";
    private static final String WRONG_QUESTION =
            "INVALID_ARGUMENT if there is no such server or the channel is out of range";
    /**
     * Two networks of two servers each. On the left nick 0 of server 0 has made channel 0, nick 9
     * of server 1 channel 3, and both are in both; on the right nick 0 of server 3 made channel 0.
     */
    private static final String WORLD = "createServers(4) = 0; connect(0,1) = 0; connect(2,3) = 0;"
            + "signOn(0,0) = 1; signOn(1,9) = 2; signOn(3,0) = 1; signOn(3,8) = 2;"
            + "join(0,0,0) = 1; join(1,9,3) = 1; join(0,0,3) = 2; join(1,9,0) = 2;"
            + "join(3,0,0) = 1; advance(3) = 3; '+i';";
    private static Boundary boundary;

    public static void main(String[] args) throws Exception {
        boundary = new Boundary("BoundaryChannelsTest");
        join();
        joinRefused();
        part();
        partRefused();
        kick();
        kickMembers();
        kickRefused();
        kickWrongState();
        members();
        operators();
        modes();
        channelTimestamp();
        for (int number : new int[] {14, 15, 16, 20, 21, 22, 23}) {
            boundary.allNamed("Promise " + number);
        }
        boundary.end();
    }

    private static void servers(String call) {
        for (int count = 1; count <= 6; count++) {
            boundary.outside("createServers(" + count + ") = 0;", call, 0, count - 1);
        }
        boundary.outside(WORLD, call, 0, 3);
    }

    private static void join() {
        boundary.promise(14, "Makes a user join a channel");
        boundary.run(Rows.founder(0) + "members(0,0) = 1; members(0,3) = 1; operators(0,3) = 1;"
                + "undo() = 4; members(0,3) = 0; members(0,2) = 1");

        boundary.promise(14, EXISTING);
        servers("join(?,0,1)");
        boundary.run("createServers(6) = 0; signOn(0,4) = 1; signOn(5,4) = 1; join(6,4,0) = -1;"
                + "join(-1,4,0) = -1; join(5,4,0) = 1; join(0,4,0) = 1; members(5,0) = 16");

        boundary.promise(14, NICK);
        boundary.run("signOn(0,0) = 1; signOn(0,9) = 2; join(0,-1,0) = -1; join(0,10,0) = -1;"
                + "join(0,0,0) = 1; join(0,9,0) = 2; members(0,0) = 513");

        boundary.promise(14, CHANNEL);
        boundary.run("signOn(0,4) = 1; join(0,4,-1) = -1; join(0,4,4) = -1; join(0,4,0) = 1;"
                + "join(0,4,3) = 1; members(0,0) = 16; members(0,3) = 16; members(0,1) = 0");

        boundary.promise(14, AFTERWARDS);
        boundary.run(Rows.crowd(0) + Rows.joins(0, 0, 9, 3) + "members(0,3) = 1023;"
                + "operators(0,3) = 1; join(0,9,3) = -2");
        boundary.run(WORLD + "join(3,8,0) = 2; signOn(0,5) = 3; join(0,5,0) = 3;"
                + "join(0,5,1) = 1");
    }

    private static void joinRefused() {
        boundary.promise(14, WRONG_ARGUMENT);
        boundary.outside(WORLD, "join(0,?,1)", 0, 9);
        boundary.outside(WORLD, "join(3,?,0)", 0, 9);
        boundary.outside(WORLD, "join(0,0,?)", 0, 3);
        boundary.outside(WORLD, "join(3,8,?)", 0, 3);
        boundary.run("join(1,0,0) = -1; join(0,10,0) = -1; join(0,0,4) = -1; join(1,10,4) = -1;"
                + "join(0,0,0) = -2; join(0,9,3) = -2; signOn(0,0) = 1; join(0,0,0) = 1;"
                + "join(0,0,4) = -1; join(1,0,0) = -1; join(0,0,0) = -2");

        boundary.promise(14, "INVALID_STATE if there is no such user on this server, or if the user"
                + " is a member");
        boundary.run("join(0,0,0) = -2; signOn(0,0) = 1; join(0,1,0) = -2; join(0,0,0) = 1;"
                + "join(0,0,0) = -2; operators(0,0) = 1; part(0,0,0) = 0; join(0,0,0) = 1;"
                + "signOff(0,0) = 1; join(0,0,0) = -2");
        // In the network but at home next door, in the other network, and a member already.
        boundary.run(WORLD + "join(1,0,1) = -2; join(0,9,1) = -2; join(2,0,1) = -2;"
                + "join(2,8,0) = -2; join(0,0,0) = -2; join(1,9,0) = -2; join(3,0,0) = -2;"
                + "join(3,0,3) = 1; join(3,0,3) = -2; join(0,0,1) = 1");
        // A member under the old nick is a member under the new one.
        boundary.run("signOn(0,1) = 1; join(0,1,2) = 1; changeNick(0,1,7) = 0; join(0,7,2) = -2;"
                + "join(0,1,2) = -2; join(0,7,3) = 1");
        // A split leaves the membership, a kick ends it.
        boundary.run(WORLD + "disconnect(0,1) = 1; join(0,0,3) = -2; join(1,9,0) = -2;"
                + "connect(0,1) = 0; join(1,9,0) = -2; kick(0,0,0,9) = 1; join(1,9,0) = 2");
    }

    private static void part() {
        boundary.promise(15, "Makes a user leave a channel");
        boundary.run(Rows.founder(0) + "part(0,0,3) = 0; members(0,3) = 0; operators(0,3) = 0;"
                + "members(0,2) = 1; part(0,0,0) = 0; members(0,0) = 0; undo() = 6;"
                + "members(0,0) = 1; operators(0,0) = 1");

        boundary.promise(15, EXISTING);
        servers("part(?,0,0)");
        boundary.run("createServers(6) = 0; signOn(0,4) = 1; signOn(5,4) = 1; join(0,4,0) = 1;"
                + "join(5,4,0) = 1; part(6,4,0) = -1; part(-1,4,0) = -1; part(5,4,0) = 0;"
                + "members(0,0) = 16; part(0,4,0) = 0");

        boundary.promise(15, NICK);
        boundary.run("signOn(0,0) = 1; signOn(0,9) = 2; join(0,0,0) = 1; join(0,9,0) = 2;"
                + "part(0,-1,0) = -1; part(0,10,0) = -1; part(0,9,0) = 1; part(0,0,0) = 0");

        boundary.promise(15, CHANNEL);
        boundary.run(Rows.founder(0) + "part(0,0,-1) = -1; part(0,0,4) = -1; part(0,0,0) = 0;"
                + "part(0,0,3) = 0; members(0,1) = 1; members(0,2) = 1");

        boundary.promise(15, AFTERWARDS);
        StringBuilder rows = new StringBuilder(Rows.crowd(0) + Rows.joins(0, 0, 9, 3));
        for (int nick = 0; nick < 10; nick++) {
            rows.append("part(0," + nick + ",3) = " + (9 - nick) + ";");
        }
        boundary.run(rows + "part(0,9,3) = -2; channelTimestamp(0,3) = -9");
        boundary.run(WORLD + "part(0,0,0) = 1; operators(0,0) = 0; part(1,9,0) = 0;"
                + "members(3,0) = 1; part(3,0,0) = 0");
    }

    private static void partRefused() {
        boundary.promise(15, WRONG_ARGUMENT);
        boundary.outside(WORLD, "part(0,?,0)", 0, 9);
        boundary.outside(WORLD, "part(3,?,0)", 0, 9);
        boundary.outside(WORLD, "part(0,0,?)", 0, 3);
        boundary.outside(WORLD, "part(3,0,?)", 0, 3);
        boundary.run("part(1,0,0) = -1; part(0,10,0) = -1; part(0,0,4) = -1; part(1,10,4) = -1;"
                + "part(0,0,0) = -2; part(0,9,3) = -2");

        boundary.promise(15, "INVALID_STATE if there is no such user on this server, or if the user"
                + " is not a member");
        boundary.run("part(0,0,0) = -2; signOn(0,0) = 1; part(0,0,0) = -2; join(0,0,0) = 1;"
                + "part(0,0,1) = -2; part(0,1,0) = -2; part(0,0,0) = 0; part(0,0,0) = -2;"
                + "undo() = 2; part(0,0,0) = 0");
        boundary.run(WORLD + "part(1,0,0) = -2; part(0,9,3) = -2; part(2,0,0) = -2;"
                + "part(3,8,0) = -2; part(3,0,3) = -2; part(0,0,1) = -2; part(0,0,3) = 1;"
                + "part(0,0,3) = -2; part(1,9,3) = 0; part(1,9,3) = -2");
        boundary.run("signOn(0,1) = 1; join(0,1,2) = 1; changeNick(0,1,7) = 0; part(0,1,2) = -2;"
                + "part(0,7,2) = 0");
        // A killed member is none any more.
        boundary.run("createServers(2) = 0; signOn(0,4) = 1; advance(1) = 1; signOn(1,4) = 1;"
                + "join(1,4,2) = 1; connect(0,1) = 1; part(1,4,2) = -2; part(0,4,2) = -2;"
                + "join(0,4,2) = 1");
    }

    private static void kick() {
        boundary.promise(16, "Makes a member leave a channel, by an operator");
        boundary.run(WORLD + "kick(0,0,0,9) = 1; members(1,0) = 1; operators(1,0) = 1;"
                + "kick(1,9,3,0) = 1; members(0,3) = 512; undo() = 7; members(0,3) = 513;"
                + "operators(0,3) = 512");

        boundary.promise(16, EXISTING);
        servers("kick(?,0,0,0)");
        boundary.run("createServers(6) = 0; signOn(0,4) = 1; signOn(5,4) = 1; join(0,4,0) = 1;"
                + "join(5,4,0) = 1; kick(6,4,0,4) = -1; kick(-1,4,0,4) = -1; kick(5,4,0,4) = 0;"
                + "members(0,0) = 16; kick(0,4,0,4) = 0");

        boundary.promise(16, "`nick`: 0 to 9, the nick of the operator");
        boundary.run("signOn(0,0) = 1; signOn(0,9) = 2; join(0,9,0) = 1; join(0,0,0) = 2;"
                + "join(0,0,1) = 1; join(0,9,1) = 2; kick(0,-1,0,0) = -1; kick(0,10,0,0) = -1;"
                + "kick(0,9,0,0) = 1; kick(0,0,1,9) = 1");

        boundary.promise(16, CHANNEL);
        boundary.run(Rows.founder(0) + "kick(0,0,-1,0) = -1; kick(0,0,4,0) = -1;"
                + "kick(0,0,0,0) = 0; kick(0,0,3,0) = 0; members(0,1) = 1; members(0,2) = 1");
    }

    private static void kickMembers() {
        boundary.promise(16, "`target`: 0 to 9, the nick of the member who leaves (possibly the"
                + " operator)");
        boundary.run("signOn(0,0) = 1; signOn(0,5) = 2; signOn(0,9) = 3; join(0,5,0) = 1;"
                + "join(0,0,0) = 2; join(0,9,0) = 3; kick(0,5,0,-1) = -1; kick(0,5,0,10) = -1;"
                + "kick(0,5,0,0) = 2; kick(0,5,0,9) = 1; kick(0,5,0,5) = 0; members(0,0) = 0;"
                + "modes(0,0) = -9");
        // The only operator goes, and the others stay without one.
        boundary.run(WORLD + "kick(0,0,0,0) = 1; operators(0,0) = 0; members(0,0) = 512;"
                + "kick(0,0,0,9) = -2; kick(1,9,0,9) = -2; join(0,0,0) = 2; kick(0,0,0,9) = -2");

        boundary.promise(16, AFTERWARDS);
        StringBuilder rows = new StringBuilder(Rows.crowd(0) + Rows.joins(0, 0, 9, 3));
        for (int target = 9; target >= 0; target--) {
            rows.append("kick(0,0,3," + target + ") = " + target + ";");
        }
        boundary.run(rows + "kick(0,0,3,0) = -2; members(0,3) = 0");
    }

    private static void kickRefused() {
        boundary.promise(16, "INVALID_ARGUMENT if there is no such server, or a nick or the channel"
                + " is out of range");
        boundary.outside(WORLD, "kick(0,?,0,9)", 0, 9);
        boundary.outside(WORLD, "kick(3,?,0,0)", 0, 9);
        boundary.outside(WORLD, "kick(0,0,?,9)", 0, 3);
        boundary.outside(WORLD, "kick(3,0,?,0)", 0, 3);
        boundary.outside(WORLD, "kick(0,0,0,?)", 0, 9);
        boundary.outside(WORLD, "kick(3,0,0,?)", 0, 9);
        // Also by a user who is not there or may not kick.
        boundary.outside("", "kick(0,0,0,?)", 0, 9);
        boundary.run(WORLD + "kick(1,9,0,10) = -1; kick(1,9,0,-1) = -1; kick(1,9,4,0) = -1;"
                + "kick(1,5,0,10) = -1; kick(4,10,4,10) = -1; kick(1,9,0,0) = -2");
    }

    private static void kickWrongState() {
        boundary.promise(16, "INVALID_STATE if there is no such user on this server, if the user is"
                + " not an operator of the channel, or if no member of the channel has the nick"
                + " target");
        boundary.run("kick(0,0,0,0) = -2; signOn(0,0) = 1; kick(0,0,0,0) = -2; join(0,0,0) = 1;"
                + "kick(0,0,1,0) = -2; kick(0,0,0,1) = -2; kick(0,1,0,0) = -2; signOn(0,1) = 2;"
                + "kick(0,0,0,1) = -2; kick(0,1,0,0) = -2; kick(0,1,0,1) = -2; join(0,1,0) = 2;"
                + "kick(0,1,0,0) = -2; kick(0,1,0,1) = -2; kick(0,0,0,1) = 1;"
                + "kick(0,0,0,1) = -2; kick(0,0,0,0) = 0; kick(0,0,0,0) = -2");
        // The operator at home next door, the operator of the other network, targets there.
        boundary.run(WORLD + "kick(1,0,0,9) = -2; kick(0,9,3,0) = -2; kick(2,0,0,0) = -2;"
                + "kick(0,0,3,9) = -2; kick(1,9,0,0) = -2; kick(3,0,0,9) = -2;"
                + "kick(3,0,0,8) = -2; kick(0,0,0,8) = -2; kick(0,0,0,5) = -2;"
                + "kick(0,0,0,9) = 1; kick(3,0,0,0) = 0");
        // An operator who has been deprived, and one who has been made.
        boundary.run(WORLD + "clearText() = 2; '-o0+o9'; applyModes(0,0,0) = 2;"
                + "kick(0,0,0,9) = -2; kick(0,0,0,0) = -2; kick(1,9,0,0) = 1; undo() = 7;"
                + "undo() = 6; kick(1,9,0,0) = -2; kick(0,0,0,9) = 1");
        // The target behind a split is no member here.
        boundary.run(WORLD + "disconnect(0,1) = 1; kick(0,0,0,9) = -2; connect(0,1) = 0;"
                + "kick(0,0,0,9) = 1");
    }

    /** What the four questions have in common. */
    private static void question(int promise, String name, int least) {
        boundary.promise(promise, EXISTING);
        servers(name + "(?,0)");
        boundary.run("createServers(6) = 0; " + name + "(0,0) = " + least + "; " + name
                + "(5,0) = " + least + "; " + name + "(6,0) = -1; " + name + "(-1,0) = -1");

        boundary.promise(promise, CHANNEL);
        boundary.run(name + "(0,-1) = -1; " + name + "(0,0) = " + least + "; " + name + "(0,3) = "
                + least + "; " + name + "(0,4) = -1");

        boundary.promise(promise, WRONG_QUESTION);
        boundary.outside(WORLD, name + "(0,?)", 0, 3);
        boundary.outside(WORLD, name + "(3,?)", 0, 3);
        boundary.run(name + "(1,0) = -1; " + name + "(0,4) = -1; " + name + "(1,4) = -1;"
                + "createServers(2) = 0; " + name + "(1,0) = " + least + "; undo() = 0; " + name
                + "(1,0) = -1");
        boundary.runUnchanged(WORLD + name + "(0,1) = " + least);
    }

    private static void members() {
        question(20, "members", 0);
        boundary.promise(20, "Returns the members of the channel in the network of the server, as a"
                + " bit set (0 if it does not exist)");
        for (int nick = 0; nick < 10; nick++) {
            boundary.run("signOn(0," + nick + ") = 1; members(0,3) = 0; join(0," + nick
                    + ",3) = 1; members(0,3) = " + (1 << nick) + "; members(0,2) = 0; part(0,"
                    + nick + ",3) = 0; members(0,3) = 0");
        }
        boundary.run(Rows.chain(2) + Rows.crowd(1) + Rows.joins(1, 0, 9, 0)
                + "members(0,0) = 1023; members(1,0) = 1023; disconnect(0,1) = 1;"
                + "members(0,0) = 0; members(1,0) = 1023");
        boundary.run(WORLD + "members(0,0) = 513; members(1,0) = 513; members(2,0) = 1;"
                + "members(3,3) = 0; members(0,1) = 0");
    }

    private static void operators() {
        question(21, "operators", 0);
        boundary.promise(21, "Returns the operators of the channel in the network of the server, as"
                + " a bit set (0 if it does not exist)");
        for (int nick = 0; nick < 10; nick++) {
            boundary.run("signOn(0," + nick + ") = 1; operators(0,3) = 0; join(0," + nick
                    + ",3) = 1; operators(0,3) = " + (1 << nick) + "; operators(0,2) = 0; part(0,"
                    + nick + ",3) = 0; operators(0,3) = 0");
        }
        // All ten, then none of the ten.
        boundary.run(Rows.chain(2) + Rows.crowd(1) + Rows.joins(1, 0, 9, 0)
                + "'+o0o1o2o3o4o5o6o7o8o9'; applyModes(1,0,0) = 10; operators(0,0) = 1023;"
                + "'-o0o1o2o3o4o5o6o7o8o9'; applyModes(1,9,0) = 10; operators(0,0) = 0;"
                + "members(0,0) = 1023");
        boundary.run(WORLD + "operators(1,0) = 1; operators(0,3) = 512; operators(2,0) = 1;"
                + "operators(3,3) = 0; part(0,0,0) = 1; operators(0,0) = 0; operators(3,0) = 1");
    }

    private static void modes() {
        question(22, "modes", -9);
        boundary.promise(22, "Returns the modes of the channel in the network of the server, as a"
                + " bit set");
        boundary.run(WORLD + "modes(0,0) = 0; applyModes(0,0,0) = 1; modes(0,0) = 1;"
                + "modes(1,0) = 1; modes(2,0) = 0; modes(0,3) = 0; '-i+t'; applyModes(0,0,0) = 2;"
                + "modes(1,0) = 32; '+imnpst'; applyModes(0,0,0) = 6; modes(0,0) = 63;"
                + "'-imnpst'; applyModes(0,0,0) = 6; modes(0,0) = 0");

        boundary.promise(22, "NONE if the channel does not exist");
        boundary.run("modes(0,0) = -9; signOn(0,0) = 1; modes(0,0) = -9; join(0,0,0) = 1;"
                + "modes(0,0) = 0; modes(0,1) = -9; '+t'; applyModes(0,0,0) = 1; part(0,0,0) = 0;"
                + "modes(0,0) = -9; join(0,0,0) = 1; modes(0,0) = 0; undo() = 4; undo() = 3;"
                + "modes(0,0) = 32");
        boundary.run(WORLD + "modes(2,3) = -9; disconnect(2,3) = 1; modes(2,0) = -9;"
                + "modes(3,0) = 0; disconnect(0,1) = 1; modes(0,3) = 0; part(0,0,3) = 0;"
                + "modes(0,3) = -9; modes(1,3) = 0");
    }

    private static void channelTimestamp() {
        question(23, "channelTimestamp", -9);
        boundary.promise(23, "Returns the timestamp of the channel in the network of the server");
        boundary.run("createServers(2) = 0; signOn(0,0) = 1; signOn(1,0) = 1; join(0,0,0) = 1;"
                + "channelTimestamp(0,0) = 0;" + Rows.clock(0, 9999) + "join(1,0,0) = 1;"
                + "channelTimestamp(1,0) = 9999; channelTimestamp(0,0) = 0; signOn(0,1) = 2;"
                + "join(0,1,0) = 2; channelTimestamp(0,0) = 0; join(0,1,3) = 1;"
                + "channelTimestamp(0,3) = 9999");

        boundary.promise(23, "NONE if the channel does not exist");
        boundary.run("channelTimestamp(0,3) = -9; signOn(0,9) = 1; channelTimestamp(0,3) = -9;"
                + "join(0,9,3) = 1; channelTimestamp(0,3) = 0; channelTimestamp(0,2) = -9;"
                + "kick(0,9,3,9) = 0; channelTimestamp(0,3) = -9; advance(1) = 1;"
                + "join(0,9,3) = 1; channelTimestamp(0,3) = 1; signOff(0,9) = 1;"
                + "channelTimestamp(0,3) = -9; undo() = 5; channelTimestamp(0,3) = 1");
        boundary.run(WORLD + "channelTimestamp(2,3) = -9; disconnect(2,3) = 1;"
                + "channelTimestamp(2,0) = -9; channelTimestamp(3,0) = 0");
    }
}
