/** The boundary cases of promises 8 to 13, sentence by sentence. */
public final class BoundaryUsersTest {
    private static final String EXISTING = "`server`: the number of an existing server";
    private static final String NICK = "`nick`: 0 to 9";
    private static final String WRONG_ARGUMENT =
            "INVALID_ARGUMENT if there is no such server or the nick is out of range";
    /** Two networks of two servers each; nick 0 on server 0, nick 9 on server 1, both on 3. */
    private static final String WORLD = "createServers(4) = 0; connect(0,1) = 0; connect(2,3) = 0;"
            + "signOn(0,0) = 1; signOn(1,9) = 2; signOn(3,0) = 1; signOn(3,9) = 2;"
            + "join(0,0,0) = 1; join(1,9,3) = 1; advance(3) = 3; '+i';";
    private static Boundary boundary;

    public static void main(String[] args) throws Exception {
        boundary = new Boundary("BoundaryUsersTest");
        signOn();
        signOnRefused();
        signOff();
        signOffRefused();
        changeNick();
        changeNickStays();
        changeNickRefused();
        homeServer();
        userTimestamp();
        visibleUsers();
        boundary.endOfPromises(8, 13);
    }

    /** The server is refused beside the existing ones, however many there are. */
    private static void servers(String call) {
        for (int count = 1; count <= 6; count++) {
            boundary.outside("createServers(" + count + ") = 0;", call, 0, count - 1);
        }
        boundary.outside(WORLD, call, 0, 3);
    }

    private static void signOn() {
        boundary.promise(8, "Adds a user, whose timestamp is the time of the clock");
        boundary.run("signOn(0,0) = 1; userTimestamp(0,0) = 0; advance(1) = 1; signOn(0,1) = 2;"
                + "userTimestamp(0,1) = 1; userTimestamp(0,0) = 0");
        boundary.run(Rows.clock(0, 9999) + "signOn(0,9) = 1; userTimestamp(0,9) = 9999;"
                + "members(0,0) = 0; members(0,3) = 0");

        boundary.promise(8, EXISTING + ", which becomes the home server");
        servers("signOn(?,5)");
        for (int count = 1; count <= 6; count++) {
            int last = count - 1;
            boundary.run(Rows.chain(count) + "signOn(" + count + ",5) = -1; signOn(-1,5) = -1;"
                    + "signOn(" + last + ",5) = 1; homeServer(0,5) = " + last + ";"
                    + "signOn(0,6) = 2; homeServer(" + last + ",6) = 0");
        }

        boundary.promise(8, NICK);
        boundary.run("signOn(0,-1) = -1; signOn(0,10) = -1; signOn(0,0) = 1; signOn(0,9) = 2;"
                + "visibleUsers(0) = 513");

        boundary.promise(8, "Returns the number of users of the network");
        boundary.run(Rows.crowd(0) + "visibleUsers(0) = 1023");
        // The users of the other servers of the network count, those of other networks do not.
        boundary.run("createServers(3) = 0; connect(0,2) = 0;" + Rows.crowd(1)
                + "signOn(0,0) = 1; signOn(2,1) = 2; signOn(0,9) = 3; signOn(2,8) = 4;"
                + "disconnect(0,2) = 1; signOn(0,2) = 3; signOn(2,2) = 3");
    }

    private static void signOnRefused() {
        boundary.promise(8, WRONG_ARGUMENT);
        boundary.outside(WORLD, "signOn(0,?)", 0, 9);
        boundary.outside(WORLD, "signOn(3,?)", 0, 9);
        // The wrong argument is told of, even beside a nick that is used.
        boundary.run("signOn(0,0) = 1; signOn(1,0) = -1; signOn(-1,0) = -1; signOn(1,10) = -1;"
                + "signOn(0,10) = -1; signOn(0,0) = -2");
        boundary.run("createServers(6) = 0; signOn(5,0) = 1; createServers(1) = 1;"
                + "signOn(5,1) = -1; signOn(1,1) = -1; undo() = 2; signOn(5,1) = 2");

        boundary.promise(8, "INVALID_STATE if the nick is used in the network");
        boundary.run("signOn(0,0) = 1; advance(1) = 1; signOn(0,0) = -2; userTimestamp(0,0) = 0;"
                + "signOff(0,0) = 0; signOn(0,0) = 1; userTimestamp(0,0) = 1");
        // The tenth user is the last: each nick is used then, from wherever it is asked.
        StringBuilder full = new StringBuilder(Rows.chain(2) + Rows.crowd(1));
        for (int nick = 0; nick < 10; nick++) {
            full.append("signOn(0," + nick + ") = -2; signOn(1," + nick + ") = -2;");
        }
        boundary.run(full + "signOff(1,9) = 0; signOn(0,9) = 10; signOn(1,9) = -2");
        // At the far end of the network it is used, behind a split it is not.
        boundary.run(Rows.chain(6) + "signOn(0,9) = 1; signOn(5,9) = -2; disconnect(5,4) = 1;"
                + "signOn(4,9) = -2; signOn(5,9) = 1; signOn(5,9) = -2; undo() = 7;"
                + "undo() = 6; signOn(5,9) = -2");
        // A killed user and one with another nick use it no more.
        boundary.run("createServers(2) = 0; signOn(0,4) = 1; signOn(1,4) = 1; connect(0,1) = 2;"
                + "signOn(0,4) = 1; signOn(1,4) = -2; changeNick(0,4,5) = 0; signOn(1,5) = -2;"
                + "signOn(1,4) = 2");
    }

    private static void signOff() {
        boundary.promise(9, "Removes a user, who leaves all channels");
        boundary.run(Rows.founder(0) + "signOff(0,0) = 4; visibleUsers(0) = 0; homeServer(0,0) = -9;"
                + "members(0,0) = 0; members(0,3) = 0; modes(0,0) = -9; modes(0,3) = -9;"
                + "operators(0,0) = 0; channelTimestamp(0,3) = -9; signOn(0,0) = 1;"
                + "part(0,0,0) = -2; part(0,0,3) = -2; undo() = 6; undo() = 5; members(0,3) = 1;"
                + "operators(0,0) = 1");
        // The others stay, without an operator, and keep the channel as it was.
        boundary.run(Rows.founder(0) + "signOn(0,9) = 2; join(0,9,3) = 2; '+t';"
                + "applyModes(0,0,3) = 1; advance(5) = 5; signOff(0,0) = 4; members(0,3) = 512;"
                + "operators(0,3) = 0; modes(0,3) = 32; channelTimestamp(0,3) = 0");

        boundary.promise(9, EXISTING);
        servers("signOff(?,0)");
        boundary.run("createServers(6) = 0; signOn(0,3) = 1; signOn(5,3) = 1; signOff(6,3) = -1;"
                + "signOff(-1,3) = -1; signOff(5,3) = 0; signOff(0,3) = 0");

        boundary.promise(9, NICK);
        boundary.run("signOn(0,0) = 1; signOn(0,9) = 2; signOff(0,-1) = -1; signOff(0,10) = -1;"
                + "signOff(0,9) = 0; visibleUsers(0) = 1; signOff(0,0) = 0; visibleUsers(0) = 0");

        boundary.promise(9, "Returns the number of channels that the user left");
        boundary.run("signOn(0,0) = 1; signOff(0,0) = 0");
        for (int count = 1; count <= 4; count++) {
            StringBuilder rows = new StringBuilder("signOn(0,9) = 1;");
            for (int channel = 4 - count; channel < 4; channel++) {
                rows.append("join(0,9," + channel + ") = 1;");
            }
            boundary.run(rows + "signOff(0,9) = " + count);
        }
    }

    private static void signOffRefused() {
        boundary.promise(9, WRONG_ARGUMENT);
        boundary.outside(WORLD, "signOff(0,?)", 0, 9);
        boundary.outside(WORLD, "signOff(3,?)", 0, 9);
        boundary.run("signOff(1,0) = -1; signOff(0,10) = -1; signOff(1,10) = -1; signOff(0,0) = -2;"
                + "createServers(2) = 0; signOff(1,0) = -2; signOff(2,0) = -1");

        boundary.promise(9, "INVALID_STATE if there is no such user on this server");
        boundary.run("signOff(0,0) = -2; signOn(0,0) = 1; signOff(0,1) = -2; signOff(0,0) = 0;"
                + "signOff(0,0) = -2; undo() = 1; signOff(0,0) = 0");
        // In the network, but at home next door; and in another network under the same nick.
        boundary.run(WORLD + "signOff(1,0) = -2; signOff(0,9) = -2; signOff(2,0) = -2;"
                + "signOff(2,9) = -2; signOff(0,0) = 1; signOff(3,0) = 0; signOff(1,9) = 1;"
                + "signOff(3,9) = 0; signOff(3,9) = -2");
        boundary.run("createServers(2) = 0; signOn(0,4) = 1; advance(1) = 1; signOn(1,4) = 1;"
                + "connect(0,1) = 1; signOff(1,4) = -2; signOff(0,4) = 0; signOff(0,4) = -2");
        boundary.run("signOn(0,4) = 1; changeNick(0,4,5) = 0; signOff(0,4) = -2; signOff(0,5) = 0");
    }

    private static void changeNick() {
        boundary.promise(10, "Changes the nick of a user");
        boundary.run("signOn(0,0) = 1; changeNick(0,0,9) = 0; visibleUsers(0) = 512;"
                + "homeServer(0,0) = -9; homeServer(0,9) = 0; changeNick(0,9,0) = 0;"
                + "visibleUsers(0) = 1; undo() = 2; visibleUsers(0) = 512");

        boundary.promise(10, "The timestamp of the user becomes the time of the clock");
        boundary.run("signOn(0,0) = 1; changeNick(0,0,1) = 0; userTimestamp(0,1) = 0;"
                + "advance(1) = 1; changeNick(0,1,0) = 0; userTimestamp(0,0) = 1;"
                + Rows.clock(1, 9999) + "changeNick(0,0,9) = 1; userTimestamp(0,9) = 9999");
        // By the new timestamp the user loses a collision that the old one would have won.
        boundary.run("createServers(2) = 0; signOn(0,1) = 1; advance(1) = 1; signOn(1,2) = 1;"
                + "advance(1) = 2; changeNick(0,1,2) = 0; connect(0,1) = 1; homeServer(0,2) = 1");

        boundary.promise(10, EXISTING);
        servers("changeNick(?,0,5)");
        boundary.run("createServers(6) = 0; signOn(0,0) = 1; signOn(5,0) = 1;"
                + "changeNick(6,0,1) = -1; changeNick(-1,0,1) = -1; changeNick(5,0,1) = 0;"
                + "changeNick(0,0,1) = 0");

        boundary.promise(10, NICK);
        boundary.run("signOn(0,0) = 1; signOn(0,9) = 2; changeNick(0,-1,5) = -1;"
                + "changeNick(0,10,5) = -1; changeNick(0,0,5) = 0; changeNick(0,9,6) = 0");

        boundary.promise(10, "`newNick`: 0 to 9");
        boundary.run("signOn(0,4) = 1; changeNick(0,4,-1) = -1; changeNick(0,4,10) = -1;"
                + "changeNick(0,4,0) = 0; changeNick(0,0,9) = 0");

        boundary.promise(10, "Returns the previous timestamp");
        boundary.run("signOn(0,0) = 1;" + Rows.clock(0, 9999) + "changeNick(0,0,1) = 0;"
                + "changeNick(0,1,0) = 9999; undo() = 7; changeNick(0,1,2) = 9999");
    }

    private static void changeNickStays() {
        boundary.promise(10, "Memberships and operator status stay");
        // In none of the channels, and in all four of them.
        boundary.run("signOn(0,0) = 1; changeNick(0,0,9) = 0; members(0,0) = 0; members(0,3) = 0");
        boundary.run(Rows.founder(0) + "'+s'; applyModes(0,0,3) = 1; advance(2) = 2;"
                + "changeNick(0,0,9) = 0; members(0,0) = 512; members(0,3) = 512;"
                + "operators(0,0) = 512; operators(0,3) = 512; channelTimestamp(0,0) = 0;"
                + "modes(0,3) = 16; signOff(0,9) = 4");
        // A member who is no operator stays none, and the old nick has nothing left.
        boundary.run(Rows.founder(0) + "signOn(0,1) = 2; join(0,1,2) = 2; changeNick(0,1,8) = 0;"
                + "operators(0,2) = 1; members(0,2) = 257; kick(0,0,2,1) = -2; signOn(0,1) = 3;"
                + "part(0,1,2) = -2; join(0,1,2) = 3; kick(0,8,2,1) = -2; kick(0,0,2,8) = 2");
    }

    private static void changeNickRefused() {
        boundary.promise(10, "INVALID_ARGUMENT if there is no such server or a nick is out of range");
        boundary.outside(WORLD, "changeNick(0,?,5)", 0, 9);
        boundary.outside(WORLD, "changeNick(0,0,?)", 0, 9);
        boundary.outside(WORLD, "changeNick(3,9,?)", 0, 9);
        boundary.run("changeNick(1,0,0) = -1; changeNick(0,10,10) = -1; changeNick(0,0,10) = -1;"
                + "changeNick(0,10,0) = -1; changeNick(0,0,0) = -2; signOn(0,0) = 1;"
                + "changeNick(1,0,1) = -1; changeNick(0,0,1) = 0");

        boundary.promise(10, "INVALID_STATE if there is no such user on this server, or if newNick"
                + " is used in the network (also by the user)");
        boundary.run("changeNick(0,0,1) = -2; signOn(0,0) = 1; advance(1) = 1;"
                + "changeNick(0,0,0) = -2; userTimestamp(0,0) = 0; changeNick(0,1,2) = -2;"
                + "changeNick(0,1,0) = -2; changeNick(0,0,1) = 0; changeNick(0,0,1) = -2");
        boundary.run(WORLD + "changeNick(1,0,5) = -2; changeNick(2,0,5) = -2;"
                + "changeNick(0,0,9) = -2; changeNick(1,9,0) = -2; changeNick(3,0,9) = -2;"
                + "changeNick(3,9,9) = -2; changeNick(3,9,5) = 0; changeNick(0,0,5) = 0;"
                + "changeNick(1,9,5) = -2; changeNick(1,9,0) = 0");
        // With ten users no nick is free, with nine there is one.
        StringBuilder full = new StringBuilder(Rows.chain(2) + Rows.crowd(0));
        for (int nick = 0; nick < 10; nick++) {
            full.append("changeNick(0,0," + nick + ") = -2; changeNick(0,9," + nick + ") = -2;");
        }
        boundary.run(full + "signOff(0,9) = 0; changeNick(0,0,8) = -2; changeNick(0,0,9) = 0;"
                + "changeNick(0,8,0) = 0; changeNick(0,7,0) = -2");
        // What is used behind a split is free here, and used again when the networks meet.
        boundary.run(Rows.chain(2) + "signOn(0,1) = 1; signOn(1,2) = 2; changeNick(0,1,2) = -2;"
                + "disconnect(0,1) = 1; changeNick(0,1,2) = 0; changeNick(0,2,1) = 0;"
                + "connect(0,1) = 0; changeNick(0,1,2) = -2; changeNick(1,2,1) = -2");
    }

    private static void homeServer() {
        boundary.promise(11, EXISTING);
        servers("homeServer(?,0)");
        boundary.run(Rows.chain(6) + "signOn(3,0) = 1; homeServer(0,0) = 3; homeServer(5,0) = 3;"
                + "homeServer(6,0) = -1; homeServer(-1,0) = -1");

        boundary.promise(11, NICK);
        boundary.run("signOn(0,0) = 1; signOn(0,9) = 2; homeServer(0,-1) = -1; homeServer(0,0) = 0;"
                + "homeServer(0,9) = 0; homeServer(0,10) = -1");

        boundary.promise(11, "Returns the home server of the user with this nick in the network of"
                + " the server");
        boundary.run(Rows.chain(6) + "signOn(0,0) = 1; signOn(5,9) = 2; homeServer(5,0) = 0;"
                + "homeServer(0,9) = 5; changeNick(5,9,1) = 0; homeServer(0,1) = 5;"
                + "homeServer(0,9) = -9");
        boundary.run("createServers(6) = 0; signOn(0,9) = 1; signOn(5,9) = 1; homeServer(0,9) = 0;"
                + "homeServer(5,9) = 5; homeServer(4,9) = -9; connect(4,5) = 0;"
                + "homeServer(4,9) = 5");

        boundary.promise(11, WRONG_ARGUMENT);
        boundary.outside(WORLD, "homeServer(0,?)", 0, 9);
        boundary.outside(WORLD, "homeServer(3,?)", 0, 9);
        boundary.run("homeServer(1,0) = -1; homeServer(0,10) = -1; homeServer(1,10) = -1;"
                + "homeServer(0,0) = -9");

        boundary.promise(11, "NONE if the nick is not used in the network");
        boundary.run("homeServer(0,0) = -9; signOn(0,0) = 1; homeServer(0,0) = 0;"
                + "homeServer(0,1) = -9; signOff(0,0) = 0; homeServer(0,0) = -9; undo() = 1;"
                + "homeServer(0,0) = 0");
        boundary.runUnchanged(WORLD + "homeServer(0,5) = -9");
    }

    private static void userTimestamp() {
        boundary.promise(12, EXISTING);
        servers("userTimestamp(?,0)");
        boundary.run(Rows.chain(6) + "advance(7) = 7; signOn(3,0) = 1; userTimestamp(0,0) = 7;"
                + "userTimestamp(5,0) = 7; userTimestamp(6,0) = -1; userTimestamp(-1,0) = -1");

        boundary.promise(12, NICK);
        boundary.run("signOn(0,0) = 1; signOn(0,9) = 2; userTimestamp(0,-1) = -1;"
                + "userTimestamp(0,0) = 0; userTimestamp(0,9) = 0; userTimestamp(0,10) = -1");

        boundary.promise(12, "Returns the timestamp of the user with this nick in the network of"
                + " the server");
        boundary.run("createServers(2) = 0; signOn(0,9) = 1;" + Rows.clock(0, 9999)
                + "signOn(1,9) = 1; userTimestamp(0,9) = 0; userTimestamp(1,9) = 9999;"
                + "connect(0,1) = 1; userTimestamp(1,9) = 0; disconnect(0,1) = 1;"
                + "userTimestamp(1,9) = -9; userTimestamp(0,9) = 0");

        boundary.promise(12, WRONG_ARGUMENT);
        boundary.outside(WORLD, "userTimestamp(0,?)", 0, 9);
        boundary.outside(WORLD, "userTimestamp(3,?)", 0, 9);
        boundary.run("userTimestamp(1,0) = -1; userTimestamp(0,10) = -1;"
                + "userTimestamp(1,10) = -1; userTimestamp(0,0) = -9");

        boundary.promise(12, "NONE if the nick is not used in the network");
        boundary.run("userTimestamp(0,9) = -9; signOn(0,9) = 1; userTimestamp(0,9) = 0;"
                + "userTimestamp(0,8) = -9; signOff(0,9) = 0; userTimestamp(0,9) = -9;"
                + "undo() = 1; userTimestamp(0,9) = 0");
        boundary.runUnchanged(WORLD + "userTimestamp(0,5) = -9");
    }

    private static void visibleUsers() {
        boundary.promise(13, EXISTING);
        servers("visibleUsers(?)");
        boundary.run("createServers(6) = 0; visibleUsers(0) = 0; visibleUsers(5) = 0;"
                + "visibleUsers(6) = -1; visibleUsers(-1) = -1");

        boundary.promise(13, "Returns the users of the network of the server, as a bit set");
        for (int nick = 0; nick < 10; nick++) {
            boundary.run("visibleUsers(0) = 0; signOn(0," + nick + ") = 1; visibleUsers(0) = "
                    + (1 << nick) + "; signOff(0," + nick + ") = 0; visibleUsers(0) = 0");
        }
        boundary.run("createServers(3) = 0; connect(1,2) = 0;" + Rows.crowd(2)
                + "visibleUsers(1) = 1023; visibleUsers(2) = 1023; visibleUsers(0) = 0");

        boundary.promise(13, "INVALID_ARGUMENT if there is no such server");
        boundary.run("visibleUsers(1) = -1; createServers(2) = 0; visibleUsers(1) = 0;"
                + "visibleUsers(2) = -1; undo() = 0; visibleUsers(1) = -1; visibleUsers(0) = 0");
    }
}
