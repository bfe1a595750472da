/** The boundary cases of promises 24 to 30, sentence by sentence. */
public final class BoundaryForecastTest {
    private static final String FIRST = "`first`: the number of an existing server";
    private static final String SECOND = "`second`: the number of an existing server";
    private static final String NO_SERVER = "INVALID_ARGUMENT if there is no such server";
    private static final String SAME_NETWORK = "INVALID_STATE if they belong to the same network";
    /** Server 0 alone, 1 with 2, 3 with 4, 5 alone; one nick in three of the networks. */
    private static final String WORLD = "createServers(6) = 0; connect(1,2) = 0; connect(3,4) = 0;"
            + "signOn(0,0) = 1; signOn(2,0) = 1; join(2,0,3) = 1; advance(1) = 1; signOn(4,0) = 1;"
            + "'+i';";
    private static Boundary boundary;

    public static void main(String[] args) throws Exception {
        boundary = new Boundary("BoundaryForecastTest");
        lastDeprived();
        lastDropped();
        burstSize();
        killsIfConnected();
        lostIfDisconnected();
        lostUsers();
        fewestKills();
        oneNetwork();
        bestFirstLink();
        firstOfSeveral();
        boundary.endOfPromises(24, 30);
    }

    private static void lastDeprived() {
        boundary.promise(24, "Returns the number of operators who were deprived by the last merge,"
                + " all channels together (a user who was deprived in two channels counts twice),"
                + " 0 if there was none");
        boundary.run("lastDeprived() = 0; createServers(3) = 0; lastDeprived() = 0;"
                + "connect(0,1) = 0; lastDeprived() = 0");
        for (int channels = 0; channels <= 4; channels++) {
            StringBuilder rows = new StringBuilder("createServers(2) = 0;" + Rows.founder(0)
                    + "advance(1) = 1; signOn(1,9) = 1;");
            for (int channel = 0; channel < channels; channel++) {
                rows.append("join(1,9," + channel + ") = 1;");
            }
            boundary.run(rows + "connect(1,0) = 0; lastDeprived() = " + channels
                    + "; operators(1,0) = 1");
        }
        // Nine of the ten users of the merged network, in all four channels.
        StringBuilder most = new StringBuilder("createServers(2) = 0;" + Rows.founder(0)
                + "advance(1) = 1;");
        for (int nick = 1; nick < 10; nick++) {
            most.append("signOn(1," + nick + ") = " + nick + ";");
        }
        for (int channel = 0; channel < 4; channel++) {
            most.append(Rows.joins(1, 1, 9, channel) + "'+o1o2o3o4o5o6o7o8o9';");
            most.append("applyModes(1,1," + channel + ") = 9;");
        }
        boundary.run(most + "connect(0,1) = 0; lastDeprived() = 36; operators(1,3) = 1;"
                + "members(0,0) = 1023; connect(0,1) = -2; lastDeprived() = 36;"
                + "disconnect(0,1) = 1; lastDeprived() = 36; connect(0,1) = 0;"
                + "lastDeprived() = 0; undo() = 7; lastDeprived() = 36; undo() = 6; undo() = 5;"
                + "lastDeprived() = 0");
        // With the same timestamp, and where the younger channel has no operator, there is none.
        boundary.run("createServers(2) = 0;" + Rows.founder(0) + "signOn(1,9) = 1;"
                + "join(1,9,0) = 1; connect(0,1) = 0; lastDeprived() = 0; operators(0,0) = 513");
        boundary.run("createServers(2) = 0;" + Rows.founder(0) + "advance(1) = 1; signOn(1,9) = 1;"
                + "join(1,9,0) = 1; '-o9'; applyModes(1,9,0) = 1; connect(0,1) = 0;"
                + "lastDeprived() = 0; operators(1,0) = 1; members(1,0) = 513");
    }

    private static void lastDropped() {
        boundary.promise(25, "Returns the number of modes that were dropped by the last merge, all"
                + " channels together, 0 if there was none");
        boundary.run("lastDropped() = 0; createServers(3) = 0; lastDropped() = 0;"
                + "connect(0,1) = 0; lastDropped() = 0");
        String younger = "createServers(2) = 0;" + Rows.founder(0) + "advance(1) = 1;"
                + "signOn(1,9) = 1;";
        boundary.run(younger + "join(1,9,3) = 1; connect(0,1) = 0; lastDropped() = 0");
        boundary.run(younger + "join(1,9,3) = 1; '+t'; applyModes(1,9,3) = 1; connect(0,1) = 0;"
                + "lastDropped() = 1; modes(1,3) = 0");
        // All six modes of all four channels, also where the older channel has the mode.
        StringBuilder most = new StringBuilder(younger + "'+imnpst'; applyModes(0,0,3) = 6;");
        for (int channel = 0; channel < 4; channel++) {
            most.append("join(1,9," + channel + ") = 1; '+imnpst';");
            most.append("applyModes(1,9," + channel + ") = 6;");
        }
        boundary.run(most + "connect(1,0) = 0; lastDropped() = 24; modes(1,0) = 0;"
                + "modes(1,3) = 63; connect(0,1) = -2; lastDropped() = 24; disconnect(1,0) = 1;"
                + "lastDropped() = 24; connect(0,1) = 0; lastDropped() = 0; undo() = 7;"
                + "lastDropped() = 24; undo() = 6; undo() = 5; lastDropped() = 0");
        boundary.run("createServers(2) = 0;" + Rows.founder(0) + "signOn(1,9) = 1;"
                + "join(1,9,0) = 1; '+imnpst'; applyModes(1,9,0) = 6; connect(0,1) = 0;"
                + "lastDropped() = 0; modes(0,0) = 63");
    }

    /** Both servers of a question are refused beside the existing ones. */
    private static void servers(int promise, String name) {
        boundary.promise(promise, FIRST);
        for (int count = 1; count <= 6; count++) {
            boundary.outside(Rows.chain(count), name + "(?,0)", 0, count - 1);
        }
        boundary.outside(WORLD, name + "(?,2)", 0, 5);
        boundary.promise(promise, SECOND);
        for (int count = 1; count <= 6; count++) {
            boundary.outside(Rows.chain(count), name + "(0,?)", 0, count - 1);
        }
        boundary.outside(WORLD, name + "(2,?)", 0, 5);
        boundary.promise(promise, NO_SERVER);
        boundary.run(name + "(0,1) = -1; " + name + "(1,0) = -1; " + name + "(1,1) = -1; " + name
                + "(-1,-1) = -1; " + name + "(6,6) = -1; " + name + "(0,0) = -2;"
                + "createServers(2) = 0; " + name + "(2,2) = -1; " + name + "(1,1) = -2; undo() = 0;"
                + name + "(1,1) = -1");
    }

    private static void burstSize() {
        servers(26, "burstSize");
        boundary.promise(26, FIRST);
        boundary.run("createServers(6) = 0; burstSize(0,1) = 2; burstSize(5,1) = 2;"
                + "burstSize(6,1) = -1; burstSize(-1,1) = -1");
        boundary.promise(26, SECOND);
        boundary.run("createServers(6) = 0; burstSize(1,0) = 2; burstSize(1,5) = 2;"
                + "burstSize(1,6) = -1; burstSize(1,-1) = -1");

        boundary.promise(26, "Returns the number of messages of the burst if the servers were"
                + " linked");
        boundary.run("createServers(2) = 0; burstSize(0,1) = 2; signOn(1,9) = 1;"
                + "burstSize(0,1) = 3; join(1,9,3) = 1; burstSize(1,0) = 4; '+t';"
                + "applyModes(1,9,3) = 1; burstSize(0,1) = 5; part(1,9,3) = 0;"
                + "burstSize(0,1) = 3; signOff(1,9) = 0; burstSize(0,1) = 2");
        // Six servers, twenty users, eighty memberships, and all modes of eight channels.
        StringBuilder most = new StringBuilder(Rows.chain(6) + "disconnect(2,3) = 3;"
                + Rows.crowd(0) + Rows.crowd(5));
        for (int server = 0; server <= 5; server += 5) {
            for (int channel = 0; channel < 4; channel++) {
                most.append(Rows.joins(server, 0, 9, channel) + "'+imnpst';");
                most.append("applyModes(" + server + ",0," + channel + ") = 6;");
            }
        }
        boundary.run(most + "burstSize(2,3) = 154; burstSize(5,0) = 154; burstSize(2,2) = -2");
        boundary.runUnchanged(WORLD + "burstSize(0,2) = 6");

        boundary.promise(26, SAME_NETWORK);
        boundary.run("burstSize(0,0) = -2; createServers(2) = 0; burstSize(1,1) = -2;"
                + "burstSize(0,1) = 2; connect(0,1) = 0; burstSize(0,1) = -2;"
                + "disconnect(0,1) = 1; burstSize(1,0) = 2");
        boundary.run(Rows.chain(6) + "burstSize(0,5) = -2; burstSize(5,0) = -2;"
                + "disconnect(2,3) = 3; burstSize(0,5) = 6; burstSize(0,2) = -2;"
                + "burstSize(3,5) = -2");
    }

    private static void killsIfConnected() {
        servers(27, "killsIfConnected");
        boundary.promise(27, FIRST);
        boundary.run(WORLD + "killsIfConnected(0,1) = 2; killsIfConnected(5,1) = 0;"
                + "killsIfConnected(6,1) = -1; killsIfConnected(-1,1) = -1");
        boundary.promise(27, SECOND);
        boundary.run(WORLD + "killsIfConnected(1,0) = 2; killsIfConnected(1,5) = 0;"
                + "killsIfConnected(1,6) = -1; killsIfConnected(1,-1) = -1");

        boundary.promise(27, "Returns the number of users that would be killed if the servers were"
                + " linked");
        boundary.run(WORLD + "killsIfConnected(0,3) = 1; killsIfConnected(4,1) = 1;"
                + "killsIfConnected(0,2) = 2; killsIfConnected(5,0) = 0");
        boundary.run("createServers(2) = 0; killsIfConnected(0,1) = 0;" + Rows.crowd(0)
                + "killsIfConnected(0,1) = 0;" + Rows.crowd(1) + "killsIfConnected(0,1) = 20;"
                + "visibleUsers(0) = 1023; visibleUsers(1) = 1023; connect(0,1) = 20");
        boundary.run("createServers(2) = 0;" + Rows.crowd(1) + "advance(1) = 1;" + Rows.crowd(0)
                + "killsIfConnected(0,1) = 10; killsIfConnected(1,0) = 10; connect(0,1) = 10");
        boundary.runUnchanged(WORLD + "killsIfConnected(0,2) = 2");

        boundary.promise(27, SAME_NETWORK);
        boundary.run("killsIfConnected(0,0) = -2; createServers(2) = 0; killsIfConnected(1,1) = -2;"
                + "killsIfConnected(0,1) = 0; connect(0,1) = 0; killsIfConnected(0,1) = -2;"
                + "disconnect(0,1) = 1; killsIfConnected(1,0) = 0");
        boundary.run(Rows.chain(6) + "killsIfConnected(0,5) = -2; killsIfConnected(5,0) = -2;"
                + "disconnect(2,3) = 3; killsIfConnected(0,5) = 0; killsIfConnected(0,2) = -2;"
                + "killsIfConnected(3,5) = -2");
    }

    private static void lostIfDisconnected() {
        servers(28, "lostIfDisconnected");
        boundary.promise(28, FIRST);
        boundary.run(Rows.chain(6) + "lostIfDisconnected(0,1) = 0; lostIfDisconnected(5,4) = 0;"
                + "lostIfDisconnected(6,5) = -1; lostIfDisconnected(-1,0) = -1");
        boundary.promise(28, SECOND);
        boundary.run(Rows.chain(6) + "lostIfDisconnected(1,0) = 0; lostIfDisconnected(4,5) = 0;"
                + "lostIfDisconnected(5,6) = -1; lostIfDisconnected(0,-1) = -1");

        boundary.promise(28, "INVALID_STATE if the servers are not linked directly");
        boundary.run("lostIfDisconnected(0,0) = -2; createServers(2) = 0;"
                + "lostIfDisconnected(0,1) = -2; lostIfDisconnected(1,1) = -2; connect(0,1) = 0;"
                + "lostIfDisconnected(0,1) = 0; lostIfDisconnected(1,0) = 0;"
                + "lostIfDisconnected(0,0) = -2; disconnect(0,1) = 1;"
                + "lostIfDisconnected(1,0) = -2; undo() = 2; lostIfDisconnected(1,0) = 0");
        boundary.run(Rows.chain(3) + "lostIfDisconnected(0,2) = -2; lostIfDisconnected(2,0) = -2;"
                + "lostIfDisconnected(1,2) = 0");
    }

    private static void lostUsers() {
        boundary.promise(28, "Returns the number of users whose home server would be in another"
                + " network than server 0 if the link were removed, minus the number of users whose"
                + " home server is in another network now");
        // All ten are lost, or none, by the side on which they are at home.
        boundary.run(Rows.chain(6) + Rows.crowd(5) + "lostIfDisconnected(0,1) = 10;"
                + "lostIfDisconnected(4,5) = 10; lostIfDisconnected(5,4) = 10; hops(0,5) = 5");
        boundary.run(Rows.chain(6) + Rows.crowd(0) + "lostIfDisconnected(0,1) = 0;"
                + "lostIfDisconnected(1,0) = 0; lostIfDisconnected(4,5) = 0");
        boundary.run(Rows.chain(6) + "signOn(0,0) = 1; signOn(1,1) = 2; signOn(2,2) = 3;"
                + "signOn(3,3) = 4; signOn(4,4) = 5; signOn(5,5) = 6; lostIfDisconnected(0,1) = 5;"
                + "lostIfDisconnected(2,1) = 4; lostIfDisconnected(2,3) = 3;"
                + "lostIfDisconnected(4,3) = 2; lostIfDisconnected(4,5) = 1");
        // A link in another network loses nobody, however many are outside already.
        boundary.run("createServers(6) = 0; connect(4,5) = 0; connect(0,1) = 0;" + Rows.crowd(4)
                + "signOn(3,0) = 1; signOn(1,0) = 1; lostIfDisconnected(4,5) = 0;"
                + "lostIfDisconnected(5,4) = 0; lostIfDisconnected(0,1) = 1;"
                + "disconnect(0,1) = 1; lostIfDisconnected(4,5) = 0");
        boundary.runUnchanged(Rows.chain(3) + "signOn(2,0) = 1; lostIfDisconnected(0,1) = 1");
    }

    private static void fewestKills() {
        boundary.promise(29, "Returns the fewest kills of a plan");
        boundary.run("createServers(2) = 0; fewestKills() = 0; signOn(0,0) = 1;"
                + "fewestKills() = 0; signOn(1,0) = 1; fewestKills() = 2; signOff(1,0) = 0;"
                + "advance(1) = 1; signOn(1,0) = 1; fewestKills() = 1; signOn(1,9) = 2;"
                + "fewestKills() = 1");
        // Of the users with one nick and one timestamp an even number dies, one may be left.
        for (int servers = 1; servers <= 6; servers++) {
            StringBuilder rows = new StringBuilder("createServers(6) = 0;");
            for (int server = 0; server < servers; server++) {
                rows.append("signOn(" + server + ",9) = 1;");
            }
            boundary.run(rows + "fewestKills() = " + (servers - servers % 2));
        }
        // The first plan that comes to mind kills four, and a later one three.
        boundary.run("createServers(3) = 0; signOn(0,0) = 1; signOn(2,0) = 1; signOn(0,1) = 2;"
                + "advance(1) = 1; signOn(1,0) = 1; signOn(1,1) = 2; fewestKills() = 3;"
                + "bestFirstLink() = 2; connect(0,1) = 2; fewestKills() = 2; undo() = 7;"
                + "connect(0,2) = 2; fewestKills() = 1");
        // The most users that there can be: all sixty die, or fifty where the timestamps differ.
        StringBuilder equal = new StringBuilder("createServers(6) = 0;");
        StringBuilder different = new StringBuilder("createServers(6) = 0;");
        for (int server = 0; server < 6; server++) {
            equal.append(Rows.crowd(server));
            different.append(Rows.crowd(server) + "advance(1) = " + (server + 1) + ";");
        }
        boundary.run(equal + "fewestKills() = 60; bestFirstLink() = 1; connect(0,1) = 20;"
                + "fewestKills() = 40; connect(2,3) = 20; connect(4,5) = 20; fewestKills() = 0");
        boundary.run(different + "fewestKills() = 50; bestFirstLink() = 1");
        boundary.run(equal + "signOff(5,0) = 0; fewestKills() = 58");
        boundary.runUnchanged(WORLD + "fewestKills() = 2");
    }

    private static void oneNetwork() {
        for (int count = 1; count <= 6; count++) {
            int last = count - 1;
            String one = Rows.chain(count) + Rows.crowd(last);
            boundary.promise(29, "0 if there is only one network");
            boundary.run(one + "fewestKills() = 0");
            boundary.promise(30, "NONE if there is only one network");
            boundary.run(one + "bestFirstLink() = -9");
            if (count > 1) {
                // One link less, and there are two.
                boundary.run(one + "disconnect(" + (last - 1) + "," + last + ") = " + last
                        + "; bestFirstLink() = " + last + "; fewestKills() = 0; connect(0," + last
                        + ") = 0; bestFirstLink() = -9");
            }
        }
        boundary.run("bestFirstLink() = -9; createServers(2) = 0; bestFirstLink() = 1; undo() = 0;"
                + "bestFirstLink() = -9");
    }

    /**
     * The pair of the last two servers is the only one that a best plan can begin with. Nick k
     * up to 3 is old on servers 4 and 5 and young on k; each further nick is old on server 4 and
     * on one of servers 0 to 3, and young on a later one of these.
     */
    private static String onlyTheLastPair() {
        StringBuilder old = new StringBuilder("createServers(6) = 0;");
        StringBuilder young = new StringBuilder("advance(1) = 1;");
        int[] users = new int[6];
        for (int nick = 0; nick < 4; nick++) {
            old.append("signOn(4," + nick + ") = " + ++users[4] + ";");
            old.append("signOn(5," + nick + ") = " + ++users[5] + ";");
        }
        int nick = 4;
        for (int left = 0; left < 4; left++) {
            for (int right = left + 1; right < 4; right++) {
                old.append("signOn(4," + nick + ") = " + ++users[4] + ";");
                old.append("signOn(" + left + "," + nick + ") = " + ++users[left] + ";");
                nick++;
            }
        }
        for (int server = 0; server < 4; server++) {
            young.append("signOn(" + server + "," + server + ") = " + ++users[server] + ";");
        }
        nick = 4;
        for (int left = 0; left < 4; left++) {
            for (int right = left + 1; right < 4; right++) {
                young.append("signOn(" + right + "," + nick + ") = " + ++users[right] + ";");
                nick++;
            }
        }
        return old.toString() + young;
    }

    private static void bestFirstLink() {
        boundary.promise(30, "The first link of a plan with the fewest kills");
        boundary.run("createServers(3) = 0; signOn(1,7) = 1; signOn(2,7) = 1; advance(1) = 1;"
                + "signOn(0,7) = 1; bestFirstLink() = 12; fewestKills() = 2; connect(1,2) = 2;"
                + "fewestKills() = 0; bestFirstLink() = 1");
        boundary.run(onlyTheLastPair() + "bestFirstLink() = 45; fewestKills() = 20;"
                + "connect(4,5) = 8; fewestKills() = 12; bestFirstLink() = 4; connect(0,4) = 6;"
                + "bestFirstLink() = 1; connect(1,0) = 4; connect(2,0) = 2; connect(3,0) = 0;"
                + "bestFirstLink() = -9");
        boundary.runUnchanged(WORLD + "bestFirstLink() = 1");

        boundary.promise(30, "Each network is represented by its server with the smallest number");
        boundary.run("createServers(6) = 0; connect(5,0) = 0; connect(4,1) = 0; bestFirstLink() = 1;"
                + "connect(1,0) = 0; bestFirstLink() = 2; connect(2,5) = 0; bestFirstLink() = 3;"
                + "connect(3,4) = 0; bestFirstLink() = -9; disconnect(0,5) = 4;"
                + "bestFirstLink() = 2");
        boundary.run("createServers(6) = 0; connect(5,3) = 0; connect(4,2) = 0; connect(0,1) = 0;"
                + "signOn(5,9) = 1; signOn(4,9) = 1; advance(1) = 1; signOn(1,9) = 1;"
                + "bestFirstLink() = 23");

        boundary.promise(30, "Returns 10 times the smaller representative plus the greater one");
        boundary.run("createServers(2) = 0; bestFirstLink() = 1");
        boundary.run(onlyTheLastPair() + "bestFirstLink() = 45");
        boundary.run("createServers(6) = 0; connect(0,1) = 0; connect(1,2) = 0; connect(2,3) = 0;"
                + "signOn(4,0) = 1; signOn(5,0) = 1; advance(1) = 1; signOn(3,0) = 1;"
                + "bestFirstLink() = 45; connect(3,4) = 1; bestFirstLink() = 5");
    }

    private static void firstOfSeveral() {
        boundary.promise(30, "Of all pairs of networks with which such a plan can begin, the one"
                + " whose smaller representative is smallest is taken; of several such pairs, the"
                + " one whose greater representative is smallest");
        for (int count = 2; count <= 6; count++) {
            boundary.run("createServers(" + count + ") = 0; bestFirstLink() = 1");
        }
        // Both 1 with 2 and 0 with 3 can begin, and neither 0 with 1 nor 0 with 2.
        boundary.run("createServers(4) = 0; signOn(0,0) = 1; signOn(3,0) = 1; signOn(1,1) = 1;"
                + "signOn(2,1) = 1; advance(1) = 1; signOn(0,1) = 2; signOn(1,0) = 2;"
                + "fewestKills() = 4; bestFirstLink() = 3; connect(1,2) = 2; fewestKills() = 2;"
                + "undo() = 7; connect(0,3) = 2; fewestKills() = 2; undo() = 7;"
                + "connect(0,1) = 2; fewestKills() = 4; undo() = 7; connect(0,2) = 1;"
                + "fewestKills() = 4");
        // With 0 fixed, 1 is worse and 2 and 3 are as good as each other.
        boundary.run("createServers(4) = 0; signOn(0,2) = 1; signOn(3,2) = 1; advance(1) = 1;"
                + "signOn(1,2) = 1; bestFirstLink() = 2; connect(1,2) = 0; bestFirstLink() = 3");
    }
}
