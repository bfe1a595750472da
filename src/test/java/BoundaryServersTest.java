/** The boundary cases of promises 1 to 7, sentence by sentence. */
public final class BoundaryServersTest {
    private static final int[] COUNTS = {1, 2, 3, 4, 5, 6};
    private static Boundary boundary;

    public static void main(String[] args) throws Exception {
        boundary = new Boundary("BoundaryServersTest");
        newObject();
        createServers();
        createServersCount();
        connect();
        connectServers();
        connectKills();
        connectSameNetwork();
        disconnect();
        disconnectServers();
        advance();
        time();
        hops();
        boundary.endOfPromises(1, 7);
    }

    private static void newObject() {
        boundary.promise(1, "One server, no users, no channels, clock 0, an empty text buffer,"
                + " nothing to undo");
        boundary.run("hops(0,0) = 0; hops(0,1) = -1; hops(1,0) = -1; hops(-1,0) = -1;"
                + "visibleUsers(0) = 0; visibleUsers(1) = -1; visibleUsers(-1) = -1; time() = 0;"
                + "clearText() = 0; undo() = -2; lastDeprived() = 0; lastDropped() = 0;"
                + "fewestKills() = 0; bestFirstLink() = -9; createServers(1) = 0");
        for (int nick = 0; nick < 10; nick++) {
            boundary.run("homeServer(0," + nick + ") = -9; userTimestamp(0," + nick + ") = -9;"
                    + "signOff(0," + nick + ") = -2; signOn(0," + nick + ") = 1");
        }
        for (int channel = 0; channel < 4; channel++) {
            boundary.run("members(0," + channel + ") = 0; operators(0," + channel + ") = 0;"
                    + "modes(0," + channel + ") = -9; channelTimestamp(0," + channel + ") = -9;"
                    + "signOn(0,0) = 1; part(0,0," + channel + ") = -2; join(0,0," + channel
                    + ") = 1; channelTimestamp(0," + channel + ") = 0");
        }
        boundary.run("undo() = -2; advance(1) = 1; undo() = 0; undo() = -2; time() = 0");
        boundary.run("signOn(0,0) = 1; join(0,0,0) = 1; applyModes(0,0,0) = -10");
        boundary.run(Rows.times(39, "'i';") + "appendCharacter(105) = 40;"
                + "appendCharacter(105) = -3");
    }

    private static void createServers() {
        boundary.promise(2, "Removes all servers, links, users and channels, sets the clock to 0,"
                + " and creates servers without links");
        String world = Rows.chain(6) + Rows.clock(0, 9999) + "signOn(0,0) = 1; signOn(5,9) = 2;"
                + "join(0,0,0) = 1; join(5,9,0) = 2; join(5,9,3) = 1;";
        boundary.run(world + "createServers(6) = 2; time() = 0; visibleUsers(0) = 0;"
                + "visibleUsers(5) = 0; members(0,0) = 0; members(5,3) = 0; modes(5,3) = -9;"
                + "operators(0,0) = 0; operators(5,3) = 0; hops(0,1) = -9; hops(1,2) = -9;"
                + "hops(2,3) = -9; hops(3,4) = -9; hops(4,5) = -9; hops(5,0) = -9;"
                + "disconnect(0,1) = -2; disconnect(4,5) = -2; connect(0,5) = 0;"
                + "channelTimestamp(0,0) = -9; channelTimestamp(5,3) = -9");
        // What the last server had does not come back with it.
        boundary.run(world + "createServers(1) = 2; visibleUsers(0) = 0; visibleUsers(1) = -1;"
                + "createServers(6) = 0; visibleUsers(5) = 0; homeServer(5,9) = -9;"
                + "members(5,3) = 0; signOff(5,9) = -2; hops(4,5) = -9; time() = 0;"
                + "advance(1) = 1; signOn(5,9) = 1; join(5,9,3) = 1; channelTimestamp(5,3) = 1;"
                + "modes(5,3) = 0; operators(5,3) = 512; members(5,0) = 0");
        // The buffer is none of these, and what was can be undone.
        boundary.run(world + "'+s'; createServers(1) = 2; undo() = 7; time() = 9999;"
                + "visibleUsers(3) = 513; hops(0,5) = 5; clearText() = 2");

        boundary.promise(2, "The results of the last merge become 0");
        String merged = "createServers(2) = 0; signOn(0,0) = 1; join(0,0,0) = 1; advance(1) = 1;"
                + "signOn(1,1) = 1; join(1,1,0) = 1; '+i'; applyModes(1,1,0) = 1;"
                + "connect(0,1) = 0; lastDeprived() = 1; lastDropped() = 1;";
        boundary.run(merged + "createServers(0) = -1; createServers(7) = -1; lastDeprived() = 1;"
                + "lastDropped() = 1; createServers(1) = 2; lastDeprived() = 0; lastDropped() = 0");
        boundary.run(merged + "createServers(6) = 2; lastDeprived() = 0; lastDropped() = 0;"
                + "undo() = 7; lastDeprived() = 1; lastDropped() = 1");
    }

    private static void createServersCount() {
        boundary.promise(2, "`count`: 1 to 6");
        for (int count : COUNTS) {
            boundary.run("createServers(" + count + ") = 0; hops(0," + (count - 1) + ") = "
                    + (count == 1 ? 0 : -9) + "; visibleUsers(" + (count - 1) + ") = 0;"
                    + "visibleUsers(" + count + ") = -1; hops(" + count + "," + count + ") = -1;"
                    + "undo() = 0; visibleUsers(0) = 0; visibleUsers(1) = -1");
        }

        boundary.promise(2, "Returns the number of users that there were");
        boundary.run("createServers(6) = 0; createServers(6) = 0; signOn(5,9) = 1;"
                + "createServers(6) = 1; createServers(1) = 0");
        boundary.run(Rows.crowd(0) + "createServers(1) = 10; createServers(1) = 0");
        StringBuilder all = new StringBuilder("createServers(6) = 0;");
        for (int server = 0; server < 6; server++) {
            all.append(Rows.crowd(server));
        }
        boundary.run(all + "createServers(7) = -1; createServers(1) = 60; createServers(6) = 0;"
                + "undo() = 7; undo() = 6; createServers(6) = 60");
        boundary.run(all + "signOff(5,9) = 0; connect(0,1) = 20; createServers(6) = 39");

        boundary.promise(2, "INVALID_ARGUMENT if the argument is out of range");
        boundary.outside("", "createServers(?)", 1, 6);
        boundary.outside(Rows.chain(6) + "signOn(5,9) = 1; join(5,9,3) = 1; advance(7) = 7; '+t';",
                "createServers(?)", 1, 6);
    }

    private static void connect() {
        boundary.promise(3, "Links two servers, whose networks merge");
        boundary.run("createServers(2) = 0; hops(0,1) = -9; connect(0,1) = 0; hops(0,1) = 1;"
                + "hops(1,0) = 1");
        // Two links meet in the last servers, and all six are one network.
        boundary.run("createServers(6) = 0; connect(0,1) = 0; connect(1,2) = 0; connect(3,4) = 0;"
                + "connect(4,5) = 0; signOn(0,0) = 1; join(0,0,3) = 1; signOn(5,9) = 1;"
                + "join(5,9,0) = 1; connect(5,2) = 0; visibleUsers(0) = 513;"
                + "visibleUsers(3) = 513; members(3,3) = 1; members(0,0) = 512; hops(0,3) = 5;"
                + "fewestKills() = 0; bestFirstLink() = -9");
    }

    private static void connectServers() {
        boundary.promise(3, "`first`: the number of an existing server");
        for (int count : COUNTS) {
            boundary.outside("createServers(" + count + ") = 0;", "connect(?,0)", 0, count - 1);
        }
        boundary.run("createServers(2) = 0; connect(2,0) = -1; connect(1,0) = 0");
        boundary.run("createServers(6) = 0; connect(6,0) = -1; connect(5,0) = 0; hops(0,5) = 1");
        boundary.run("createServers(6) = 0; connect(-1,5) = -1; connect(0,5) = 0; hops(5,0) = 1");

        boundary.promise(3, "`second`: the number of another existing server");
        for (int count : COUNTS) {
            boundary.outside("createServers(" + count + ") = 0;", "connect(0,?)", 0, count - 1);
        }
        for (int server = 0; server < 6; server++) {
            boundary.run("createServers(6) = 0; connect(" + server + "," + server + ") = -1;"
                    + "hops(" + server + "," + server + ") = 0");
        }
        boundary.run("createServers(6) = 0; connect(3,3) = -1; connect(3,2) = 0; connect(3,4) = 0;"
                + "connect(0,6) = -1; connect(0,5) = 0; connect(1,-1) = -1; connect(1,0) = 0");

        boundary.promise(3, "INVALID_ARGUMENT if there is no such server or both are the same");
        boundary.run("connect(0,0) = -1; connect(0,1) = -1; connect(1,0) = -1; connect(1,1) = -1;"
                + "connect(-1,-1) = -1; connect(6,6) = -1; connect(5,6) = -1");
        // A server that was there before, and one that an undo brings back.
        boundary.run("createServers(6) = 0; createServers(2) = 0; connect(0,2) = -1;"
                + "connect(5,0) = -1; connect(0,1) = 0; undo() = 2; undo() = 1; connect(0,5) = 0;"
                + "connect(0,2) = 0; undo() = 2; undo() = 1; undo() = 0; connect(0,1) = -1");
        boundary.run(Rows.chain(3) + "connect(1,1) = -1; connect(0,3) = -1; hops(0,2) = 2");
    }

    private static void connectKills() {
        boundary.promise(3, "Returns the number of users that are killed");
        boundary.run("createServers(2) = 0; connect(0,1) = 0");
        boundary.run("createServers(2) = 0; signOn(0,0) = 1; signOn(1,9) = 1; connect(0,1) = 0;"
                + "visibleUsers(1) = 513");
        boundary.run("createServers(2) = 0; signOn(0,9) = 1; advance(1) = 1; signOn(1,9) = 1;"
                + "connect(0,1) = 1; homeServer(1,9) = 0; userTimestamp(1,9) = 0");
        boundary.run("createServers(2) = 0; signOn(1,9) = 1; advance(1) = 1; signOn(0,9) = 1;"
                + "connect(0,1) = 1; homeServer(0,9) = 1; userTimestamp(0,9) = 0");
        boundary.run("createServers(2) = 0; signOn(0,0) = 1; signOn(1,0) = 1; connect(1,0) = 2;"
                + "visibleUsers(0) = 0; visibleUsers(1) = 0; signOn(1,0) = 1");
        // All ten of the younger side, then all twenty.
        boundary.run("createServers(2) = 0;" + Rows.crowd(0) + Rows.clock(0, 9999) + Rows.crowd(1)
                + "connect(0,1) = 10; visibleUsers(1) = 1023; homeServer(1,0) = 0;"
                + "homeServer(1,9) = 0; disconnect(0,1) = 1; visibleUsers(1) = 0");
        boundary.run("createServers(2) = 0;" + Rows.crowd(0) + Rows.crowd(1)
                + "killsIfConnected(0,1) = 20; connect(0,1) = 20; visibleUsers(0) = 0; undo() = 7;"
                + "visibleUsers(0) = 1023; visibleUsers(1) = 1023; hops(0,1) = -9");
    }

    private static void connectSameNetwork() {
        boundary.promise(3, "INVALID_STATE if they belong to the same network");
        boundary.run("createServers(2) = 0; connect(0,1) = 0; connect(0,1) = -2; connect(1,0) = -2;"
                + "disconnect(0,1) = 1; connect(1,0) = 0; connect(0,1) = -2");
        // Five links are the most that six servers can have.
        StringBuilder pairs = new StringBuilder(Rows.chain(6));
        for (int first = 0; first < 6; first++) {
            for (int second = 0; second < 6; second++) {
                pairs.append("connect(" + first + "," + second + ") = "
                        + (first == second ? -1 : -2) + ";");
            }
        }
        boundary.run(pairs.toString());
        boundary.run(Rows.chain(6) + "connect(0,5) = -2; disconnect(2,3) = 3; connect(0,2) = -2;"
                + "connect(3,5) = -2; connect(0,5) = 0; connect(2,3) = -2");
        // The results of the last merge stay when there is none.
        boundary.run("createServers(2) = 0; signOn(0,0) = 1; join(0,0,0) = 1; advance(1) = 1;"
                + "signOn(1,1) = 1; join(1,1,0) = 1; connect(0,1) = 0; lastDeprived() = 1;"
                + "connect(1,0) = -2; lastDeprived() = 1");
    }

    private static void disconnect() {
        boundary.promise(4, "Removes a link, so that its network splits");
        boundary.run("createServers(2) = 0; connect(0,1) = 0; disconnect(0,1) = 1; hops(0,1) = -9;"
                + "fewestKills() = 0; bestFirstLink() = 1");
        boundary.run(Rows.chain(6) + "disconnect(5,4) = 1; hops(0,4) = 4; hops(4,5) = -9;"
                + "disconnect(0,1) = 1; hops(1,4) = 3; hops(0,1) = -9; undo() = 7; hops(0,4) = 4");

        boundary.promise(4, "Returns the number of servers of the new network that contains first");
        for (int link = 0; link < 5; link++) {
            String there = "disconnect(" + link + "," + (link + 1) + ") = ";
            String back = "disconnect(" + (link + 1) + "," + link + ") = ";
            boundary.run(Rows.chain(6) + there + (link + 1));
            boundary.run(Rows.chain(6) + back + (5 - link));
        }
        // A star: the middle keeps the others, until it is alone.
        boundary.run("createServers(6) = 0; connect(3,0) = 0; connect(3,1) = 0; connect(3,2) = 0;"
                + "connect(3,4) = 0; connect(3,5) = 0; disconnect(3,0) = 5; disconnect(3,1) = 4;"
                + "disconnect(2,3) = 1; disconnect(3,4) = 2; disconnect(3,5) = 1");
    }

    private static void disconnectServers() {
        boundary.promise(4, "`first`: the number of an existing server");
        for (int count : COUNTS) {
            boundary.outside(Rows.chain(count), "disconnect(?,0)", 0, count - 1);
        }
        boundary.run(Rows.chain(6) + "disconnect(6,4) = -1; disconnect(5,4) = 1;"
                + "disconnect(-1,1) = -1; disconnect(0,1) = 1");

        boundary.promise(4, "`second`: the number of another existing server");
        for (int count : COUNTS) {
            boundary.outside(Rows.chain(count), "disconnect(0,?)", 0, count - 1);
        }
        for (int server = 0; server < 6; server++) {
            boundary.run(Rows.chain(6) + "disconnect(" + server + "," + server + ") = -1");
        }
        boundary.run(Rows.chain(6) + "disconnect(4,6) = -1; disconnect(4,5) = 5;"
                + "disconnect(1,-1) = -1; disconnect(1,0) = 4");

        boundary.promise(4, "INVALID_ARGUMENT if there is no such server or both are the same");
        boundary.run("disconnect(0,0) = -1; disconnect(0,1) = -1; disconnect(1,0) = -1;"
                + "disconnect(1,1) = -1; disconnect(6,6) = -1; disconnect(-1,-1) = -1");
        boundary.run(Rows.chain(6) + "createServers(2) = 0; disconnect(1,2) = -1;"
                + "disconnect(0,1) = -2; undo() = 6; disconnect(1,2) = 2");

        boundary.promise(4, "INVALID_STATE if they are not linked directly");
        boundary.run("createServers(2) = 0; disconnect(0,1) = -2; disconnect(1,0) = -2;"
                + "connect(1,0) = 0; disconnect(0,1) = 1; disconnect(0,1) = -2;"
                + "disconnect(1,0) = -2");
        // One link apart is enough, two are not; another network is neither.
        boundary.run(Rows.chain(4) + "disconnect(0,2) = -2; disconnect(2,0) = -2;"
                + "disconnect(0,3) = -2; disconnect(1,3) = -2; disconnect(1,2) = 2;"
                + "disconnect(0,2) = -2; disconnect(1,2) = -2; disconnect(1,3) = -2;"
                + "disconnect(3,2) = 1; disconnect(1,0) = 1");
    }

    private static void advance() {
        boundary.promise(5, "Advances the clock");
        boundary.run("time() = 0; advance(1) = 1; time() = 1; undo() = 0; time() = 0");

        boundary.promise(5, "`ticks`: 1 to 999");
        boundary.run("advance(0) = -1; advance(1) = 1; advance(1000) = -1; advance(999) = 1000");

        boundary.promise(5, "Returns the new time");
        boundary.run("advance(1) = 1; advance(1) = 2; advance(998) = 1000; advance(999) = 1999");
        boundary.run(Rows.clock(0, 9998) + "advance(1) = 9999; time() = 9999");

        boundary.promise(5, "INVALID_ARGUMENT if the argument is out of range");
        boundary.outside("", "advance(?)", 1, 999);
        boundary.outside(Rows.clock(0, 5000), "advance(?)", 1, 999);
        boundary.outside(Rows.clock(0, 9999), "advance(?)", 1, 999);

        boundary.promise(5, "LIMIT_REACHED if the clock would show more than 9999");
        boundary.run(Rows.clock(0, 9000) + "advance(999) = 9999; advance(1) = -3;"
                + "advance(999) = -3; time() = 9999");
        boundary.run(Rows.clock(0, 9001) + "advance(999) = -3; time() = 9001; advance(998) = 9999");
        boundary.run(Rows.clock(0, 9998) + "advance(2) = -3; advance(999) = -3; advance(1) = 9999;"
                + "advance(1) = -3; undo() = 7; advance(1) = 9999; advance(1) = -3;"
                + "createServers(1) = 0; advance(999) = 999; undo() = 7; undo() = 6;"
                + "advance(1) = -3");
        boundary.run(Rows.clock(0, 9999) + "advance(0) = -1; advance(1000) = -1; advance(1) = -3;"
                + "signOn(0,0) = 1; userTimestamp(0,0) = 9999");
    }

    private static void time() {
        boundary.promise(6, "Returns the time of the clock");
        boundary.run("time() = 0; advance(0) = -1; time() = 0; advance(1) = 1; time() = 1;"
                + "undo() = 0; time() = 0");
        boundary.run(Rows.clock(0, 9999) + "time() = 9999; advance(1) = -3; time() = 9999;"
                + "createServers(6) = 0; time() = 0; undo() = 7; time() = 9999");
        boundary.runUnchanged("advance(5) = 5; time() = 5");
    }

    private static void hops() {
        boundary.promise(7, "`first`: the number of an existing server");
        for (int count : COUNTS) {
            boundary.outside(Rows.chain(count), "hops(?,0)", 0, count - 1);
        }
        boundary.run("createServers(6) = 0; hops(0,0) = 0; hops(5,0) = -9; hops(6,0) = -1;"
                + "hops(-1,0) = -1");

        boundary.promise(7, "`second`: the number of an existing server");
        for (int count : COUNTS) {
            boundary.outside(Rows.chain(count), "hops(0,?)", 0, count - 1);
        }
        boundary.run("createServers(6) = 0; hops(0,5) = -9; hops(0,6) = -1; hops(0,-1) = -1");

        boundary.promise(7, "Returns the number of links on the path between the servers, 0 if they"
                + " are the same");
        StringBuilder pairs = new StringBuilder(Rows.chain(6));
        for (int first = 0; first < 6; first++) {
            for (int second = 0; second < 6; second++) {
                pairs.append("hops(" + first + "," + second + ") = "
                        + Math.abs(first - second) + ";");
            }
        }
        boundary.run(pairs.toString());
        boundary.run("createServers(6) = 0; hops(0,0) = 0; hops(5,5) = 0; connect(5,0) = 0;"
                + "hops(0,5) = 1; hops(5,0) = 1; connect(5,1) = 0; hops(0,1) = 2");

        boundary.promise(7, "INVALID_ARGUMENT if there is no such server");
        boundary.run("hops(0,1) = -1; hops(1,1) = -1; hops(-1,-1) = -1; createServers(2) = 0;"
                + "hops(0,1) = -9; hops(0,2) = -1; hops(2,2) = -1; undo() = 0; hops(0,1) = -1");

        boundary.promise(7, "NONE if they belong to different networks");
        boundary.run(Rows.chain(3) + "hops(0,2) = 2; disconnect(1,2) = 2; hops(0,2) = -9;"
                + "hops(2,0) = -9; hops(1,2) = -9; hops(2,2) = 0; connect(2,0) = 0;"
                + "hops(1,2) = 2; undo() = 4; hops(1,2) = -9");
        boundary.runUnchanged(Rows.chain(3) + "disconnect(1,2) = 2; hops(0,2) = -9");
    }
}
