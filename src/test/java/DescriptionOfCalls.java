/** Forecasts, edits, undo and errors in the "Description". */
final class DescriptionOfCalls {
    private static final String WORLD = "createServers(4) = 0; signOn(0,0) = 1; signOn(1,0) = 1;"
            + "signOn(1,1) = 2; join(1,1,0) = 1; advance(2) = 2; signOn(2,2) = 1; join(2,2,0) = 1;"
            + "join(1,0,0) = 2; '+it'; applyModes(2,2,0) = 2; connect(2,3) = 0; '+so0';";
    private final Boundary boundary;

    DescriptionOfCalls(Boundary boundary) {
        this.boundary = boundary;
    }

    void check() {
        forecasts();
        plans();
        edits();
        undo();
        severalErrors();
        errorsChangeNothing();
    }

    private void forecasts() {
        boundary.description("The forecasts do not change anything");
        for (String forecast : new String[] {"burstSize(0,1) = 7", "burstSize(1,3) = 11",
            "killsIfConnected(0,1) = 2", "killsIfConnected(1,2) = 0",
            "lostIfDisconnected(2,3) = 0", "fewestKills() = 2", "bestFirstLink() = 1"}) {
            boundary.runUnchanged(WORLD + forecast);
        }
        boundary.runUnchanged(Rows.chain(6) + Rows.crowd(5) + "lostIfDisconnected(0,1) = 10");

        boundary.description("The burst of a link between two networks consists of one message for"
                + " each server, for each user, for each membership of a user in a channel, and"
                + " for each mode of a channel, of both networks as they are before they merge");
        boundary.run("createServers(2) = 0; burstSize(0,1) = 2; signOn(0,9) = 1;"
                + "burstSize(0,1) = 3; signOn(1,9) = 1; burstSize(0,1) = 4; join(0,9,0) = 1;"
                + "burstSize(0,1) = 5; join(1,9,0) = 1; burstSize(0,1) = 6; join(1,9,3) = 1;"
                + "burstSize(0,1) = 7; '+i'; applyModes(0,9,0) = 1; burstSize(0,1) = 8; '+it';"
                + "applyModes(1,9,0) = 2; burstSize(1,0) = 10; connect(0,1) = 2;"
                + "burstSize(0,1) = -2; disconnect(0,1) = 1; burstSize(0,1) = 2");
        boundary.run(Rows.chain(6) + "burstSize(0,5) = -2; disconnect(0,1) = 1;"
                + "burstSize(0,5) = 6");
    }

    private void plans() {
        boundary.description("A plan connects all networks by links that are made one after the"
                + " other; each link merges two networks, and the order and the choice of the"
                + " networks matter because killed users do not collide any more");
        boundary.run("createServers(3) = 0; signOn(0,4) = 1; signOn(1,4) = 1; advance(1) = 1;"
                + "signOn(2,4) = 1; fewestKills() = 2; connect(0,2) = 1; connect(0,1) = 2;"
                + "undo() = 6; undo() = 5; connect(0,1) = 2; connect(0,2) = 0");
        boundary.run("createServers(1) = 0; signOn(0,4) = 1; fewestKills() = 0;"
                + "bestFirstLink() = -9");

        boundary.description("Only the merging of nicks is considered");
        boundary.run("createServers(2) = 0;" + Rows.founder(0) + "advance(1) = 1; signOn(1,1) = 1;"
                + "join(1,1,0) = 1; join(1,1,3) = 1; '+imnpst'; applyModes(1,1,3) = 6;"
                + "fewestKills() = 0; bestFirstLink() = 1; lastDeprived() = 0; connect(0,1) = 0;"
                + "lastDeprived() = 2; lastDropped() = 6");

        boundary.description("The kills of a plan are the users that are killed by all of its"
                + " links");
        boundary.run("createServers(4) = 0; signOn(0,0) = 1; signOn(1,0) = 1; signOn(2,9) = 1;"
                + "advance(1) = 1; signOn(3,9) = 1; fewestKills() = 3; connect(0,1) = 2;"
                + "fewestKills() = 1; connect(2,3) = 1; fewestKills() = 0; connect(0,2) = 0");
    }

    private void edits() {
        boundary.description("The successful calls of createServers, connect, disconnect, advance,"
                + " signOn, signOff, changeNick, join, part, kick and applyModes are edits");
        String[] edits = {"createServers(4) = 4", "connect(0,1) = 2", "disconnect(2,3) = 1",
            "advance(1) = 3", "signOn(3,9) = 2", "signOff(0,0) = 0", "changeNick(0,0,9) = 0",
            "join(0,0,3) = 1", "part(1,0,0) = 1", "kick(1,1,0,0) = 1", "applyModes(1,1,0) = 2"};
        for (String edit : edits) {
            boundary.run("advance(1) = 1; undo() = 0; undo() = -2;" + WORLD + "undo() = 7;"
                    + "connect(2,3) = 0; " + edit + "; undo() = 7; undo() = 6");
        }
        // An edit that leaves all as it was is one as well.
        boundary.run("createServers(1) = 0; undo() = 0; undo() = -2");
        boundary.run("signOn(0,0) = 1; join(0,0,0) = 1; '-i'; applyModes(0,0,0) = 1; undo() = 2;"
                + "undo() = 1; undo() = 0; undo() = -2");
        // No other call is one.
        String[] others = {"time() = 0", "hops(0,0) = 0", "homeServer(0,0) = -9",
            "userTimestamp(0,0) = -9", "visibleUsers(0) = 0", "appendCharacter(43) = 1",
            "clearText() = 0", "members(0,0) = 0", "operators(0,0) = 0", "modes(0,0) = -9",
            "channelTimestamp(0,0) = -9", "lastDeprived() = 0", "lastDropped() = 0",
            "fewestKills() = 0", "bestFirstLink() = -9"};
        for (String other : others) {
            boundary.run(other + "; undo() = -2; advance(1) = 1; undo() = 0; " + other
                    .replace("appendCharacter(43) = 1", "appendCharacter(43) = 2") + "; undo() = -2");
        }
        boundary.run("createServers(2) = 0; burstSize(0,1) = 2; killsIfConnected(0,1) = 0;"
                + "undo() = 0; undo() = -2");
        boundary.run(Rows.chain(2) + "lostIfDisconnected(0,1) = 0; undo() = 1; hops(0,1) = -9");
    }

    private void undo() {
        boundary.description("undo() restores servers, links, clock, users, channels and the"
                + " results of the last merge as they were before the latest edit that has not been"
                + " undone; it does not affect the text buffer");
        boundary.run("createServers(6) = 0; visibleUsers(5) = 0; undo() = 0; visibleUsers(5) = -1;"
                + "visibleUsers(1) = -1; visibleUsers(0) = 0");
        boundary.run(Rows.chain(6) + "disconnect(0,1) = 1; undo() = 6; hops(0,5) = 5; undo() = 5;"
                + "hops(4,5) = -9; hops(0,4) = 4");
        boundary.run(Rows.clock(0, 9999) + "createServers(1) = 0; time() = 0; undo() = 7;"
                + "time() = 9999; advance(1) = -3");
        boundary.run(WORLD + "connect(1,2) = 0; lastDeprived() = 1; lastDropped() = 2;"
                + "connect(0,1) = 2; lastDeprived() = 0; undo() = 7; lastDeprived() = 1;"
                + "lastDropped() = 2; visibleUsers(0) = 1; visibleUsers(1) = 7; undo() = 6;"
                + "lastDeprived() = 0; lastDropped() = 0; operators(2,0) = 4; modes(2,0) = 33;"
                + "channelTimestamp(2,0) = 2; clearText() = 4");
        // The buffer is neither emptied nor filled, from empty to full.
        boundary.run("signOn(0,0) = 1; join(0,0,0) = 1; '+i'; applyModes(0,0,0) = 1; undo() = 2;"
                + "modes(0,0) = 0; clearText() = 0; '" + "i".repeat(40) + "'; undo() = 1;"
                + "appendCharacter(105) = -3; clearText() = 40");

        boundary.description("The last 8 edits can be undone");
        String seven = "undo() = 6; undo() = 5; undo() = 4; undo() = 3; undo() = 2; undo() = 1;"
                + "undo() = 0; undo() = -2;";
        boundary.run(Rows.clock(0, 6993) + seven + "time() = 0");
        boundary.run(Rows.clock(0, 7992) + "undo() = 7;" + seven + "time() = 0");
        boundary.run(Rows.clock(0, 8991) + "undo() = 7;" + seven + "time() = 999");
        // A refused call takes no place among the eight.
        boundary.run("advance(1) = 1;" + "signOff(0,0) = -2; advance(0) = -1; undo() = 0;"
                + "advance(1) = 1;" + "signOff(0,0) = -2;".repeat(9) + "undo() = 0; time() = 0");
    }

    private void severalErrors() {
        boundary.description("If several errors apply to a call, INVALID_ARGUMENT is returned"
                + " rather than INVALID_STATE, and INVALID_STATE rather than LIMIT_REACHED");
        // Both are the same server, so they are in the same network and not linked as well.
        boundary.run("connect(0,0) = -1; disconnect(0,0) = -1; burstSize(0,0) = -2;"
                + "killsIfConnected(0,0) = -2; lostIfDisconnected(0,0) = -2");
        boundary.run(Rows.clock(0, 9999) + "advance(1000) = -1; advance(0) = -1; advance(999) = -3;"
                + "advance(1) = -3");
        boundary.run("'" + "i".repeat(40) + "'; appendCharacter(256) = -1;"
                + "appendCharacter(-1) = -1; appendCharacter(255) = -3; appendCharacter(0) = -3");
        boundary.run("signOn(0,0) = 1; signOn(1,0) = -1; signOn(0,10) = -1; signOn(0,0) = -2;"
                + "signOff(1,1) = -1; signOff(0,10) = -1; signOff(0,1) = -2;"
                + "changeNick(0,1,10) = -1; changeNick(0,10,0) = -1; changeNick(1,0,0) = -1;"
                + "changeNick(0,0,0) = -2; changeNick(0,1,0) = -2");
        boundary.run("join(0,0,4) = -1; join(1,0,0) = -1; join(0,0,0) = -2; part(0,0,4) = -1;"
                + "part(0,10,0) = -1; part(0,0,0) = -2; kick(0,0,0,10) = -1; kick(0,0,4,0) = -1;"
                + "kick(0,10,0,0) = -1; kick(1,0,0,0) = -1; kick(0,0,0,0) = -2; '+x';"
                + "applyModes(0,0,4) = -1; applyModes(0,10,0) = -1; applyModes(1,0,0) = -1;"
                + "applyModes(0,0,0) = -2; signOn(0,0) = 1; join(0,0,0) = 1;"
                + "applyModes(0,0,4) = -1; applyModes(0,0,1) = -2; applyModes(0,0,0) = -11");
        // No such server is an error, even where NONE or a forecast's state could be told.
        boundary.run("hops(0,1) = -1; homeServer(1,0) = -1; userTimestamp(0,10) = -1;"
                + "modes(1,0) = -1; modes(0,4) = -1; channelTimestamp(0,4) = -1;"
                + "burstSize(1,1) = -1; killsIfConnected(1,1) = -1; lostIfDisconnected(1,1) = -1");
    }

    private void errorsChangeNothing() {
        boundary.description("A call that returns an error changes nothing");
        // With nothing there, with something there, and with the eight places for undo full.
        String errors = "createServers(0) = -1; createServers(7) = -1; connect(0,0) = -1;"
                + "connect(0,6) = -1; disconnect(0,0) = -1; disconnect(6,0) = -1; advance(0) = -1;"
                + "advance(1000) = -1; hops(0,6) = -1; signOn(6,0) = -1; signOn(0,10) = -1;"
                + "signOff(6,0) = -1; signOff(0,9) = -2; changeNick(0,9,8) = -2;"
                + "changeNick(0,0,10) = -1; homeServer(6,0) = -1; userTimestamp(6,0) = -1;"
                + "visibleUsers(6) = -1; join(0,9,0) = -2; join(0,0,4) = -1; part(0,0,2) = -2;"
                + "part(0,0,4) = -1; kick(0,0,2,0) = -2; kick(0,0,0,10) = -1;"
                + "appendCharacter(256) = -1; applyModes(0,0,2) = -2; applyModes(0,0,4) = -1;"
                + "members(6,0) = -1; operators(6,0) = -1; modes(6,0) = -1;"
                + "channelTimestamp(6,0) = -1; burstSize(0,6) = -1; burstSize(0,0) = -2;"
                + "killsIfConnected(0,6) = -1; killsIfConnected(0,0) = -2;"
                + "lostIfDisconnected(0,6) = -1; lostIfDisconnected(0,0) = -2;";
        boundary.run(errors + "undo() = -2; time() = 0; clearText() = 0");
        boundary.run(WORLD + errors + "disconnect(0,1) = -2; connect(2,3) = -2; clearText() = 4;"
                + "undo() = 7");
        // The results of a merge stay, too.
        String merged = WORLD + "connect(1,2) = 0; lastDeprived() = 1; lastDropped() = 2;";
        boundary.run(merged + errors + "disconnect(0,1) = -2; disconnect(1,3) = -2;"
                + "connect(1,3) = -2; burstSize(1,3) = -2; killsIfConnected(1,3) = -2;"
                + "lostIfDisconnected(1,3) = -2; signOn(3,2) = -2; changeNick(2,2,1) = -2;"
                + "kick(1,1,0,3) = -2; kick(2,2,0,1) = -2; part(3,2,0) = -2; join(2,2,0) = -2;"
                + "applyModes(2,2,0) = -2; lastDeprived() = 1; lastDropped() = 2; clearText() = 4;"
                + "'+x'; applyModes(1,1,0) = -11; lastDeprived() = 1; lastDropped() = 2");
        boundary.run("signOn(0,0) = 1; join(0,0,0) = 1;" + Rows.clock(0, 9999) + "'+"
                + "i".repeat(38) + "o';" + errors + "advance(1) = -3; appendCharacter(48) = -3;"
                + "applyModes(0,0,0) = -50; signOn(0,0) = -2; join(0,0,0) = -2;"
                + "changeNick(0,0,0) = -2; clearText() = 40; time() = 9999; undo() = 7");
    }
}
