/** Promises 1 to 7: a new object, servers, links and the clock. */
public final class ServersTest {
    private static final Script SCRIPT = new Script("ServersTest");

    public static void main(String[] args) {
        newObject();
        createServers();
        connect();
        disconnect();
        clock();
        hops();
        SCRIPT.end();
    }

    private static void newObject() {
        SCRIPT.run("time() = 0; visibleUsers(0) = 0; visibleUsers(1) = -1; hops(0,0) = 0;"
                + "members(0,0) = 0; members(0,3) = 0; modes(0,0) = -9; channelTimestamp(0,3) = -9;"
                + "homeServer(0,0) = -9; userTimestamp(0,9) = -9; lastDeprived() = 0;"
                + "lastDropped() = 0; clearText() = 0; undo() = -2; fewestKills() = 0;"
                + "bestFirstLink() = -9; operators(0,2) = 0");
        RelayNetwork one = new RelayNetwork();
        RelayNetwork other = new RelayNetwork();
        SCRIPT.on(one, "createServers(2) = 0; signOn(1,3) = 1; advance(7) = 7; '+i'");
        SCRIPT.on(other, "time() = 0; visibleUsers(0) = 0; visibleUsers(1) = -1; clearText() = 0;"
                + "undo() = -2");
    }

    private static void createServers() {
        SCRIPT.run("createServers(0) = -1; createServers(7) = -1; createServers(-1) = -1;"
                + "createServers(2147483647) = -1; createServers(-2147483648) = -1; undo() = -2;"
                + "createServers(1) = 0; hops(0,0) = 0; hops(0,1) = -1; createServers(6) = 0;"
                + "hops(0,5) = -9; hops(5,5) = 0; hops(0,6) = -1");
        // Users of all networks are counted, the same nick in two networks too.
        SCRIPT.run("createServers(3) = 0; signOn(0,1) = 1; signOn(1,1) = 1; signOn(1,2) = 2;"
                + "signOn(2,9) = 1; connect(1,2) = 0; createServers(3) = 4; createServers(3) = 0;"
                + "visibleUsers(0) = 0; visibleUsers(1) = 0; hops(1,2) = -9");
        // Everything but the text buffer is gone.
        SCRIPT.run("createServers(2) = 0; signOn(0,1) = 1; join(0,1,2) = 1; advance(3) = 3;"
                + "signOn(1,2) = 1; join(1,2,2) = 1; '+it'; applyModes(1,2,2) = 2;"
                + "connect(0,1) = 0; lastDeprived() = 1; lastDropped() = 2; '+s';"
                + "createServers(2) = 2; time() = 0; hops(0,1) = -9; lastDeprived() = 0;"
                + "lastDropped() = 0; members(0,2) = 0; operators(0,2) = 0; modes(0,2) = -9;"
                + "channelTimestamp(0,2) = -9; clearText() = 2; signOn(0,1) = 1; join(0,1,2) = 1;"
                + "modes(0,2) = 0; operators(0,2) = 2; members(1,2) = 0");
    }

    private static void connect() {
        SCRIPT.run("connect(0,0) = -1; connect(0,1) = -1; connect(-1,0) = -1; createServers(3) = 0;"
                + "connect(0,3) = -1; connect(3,0) = -1; connect(1,1) = -1; connect(0,1) = 0;"
                + "connect(0,1) = -2; connect(1,0) = -2; connect(1,2) = 0; connect(0,2) = -2;"
                + "connect(2,0) = -2; connect(2,2) = -1");
        // The smaller timestamp stays, whichever side it is on; with equal ones both are killed.
        SCRIPT.run("createServers(2) = 0; signOn(0,0) = 1; signOn(1,1) = 1; signOn(0,2) = 2;"
                + "signOn(1,2) = 2; signOn(0,3) = 3; signOn(1,4) = 3; advance(1) = 1;"
                + "signOn(1,0) = 4; signOn(0,1) = 4; connect(1,0) = 4; visibleUsers(0) = 27;"
                + "visibleUsers(1) = 27; homeServer(0,0) = 0; homeServer(0,1) = 1;"
                + "homeServer(1,2) = -9; userTimestamp(1,0) = 0; userTimestamp(0,1) = 0;"
                + "homeServer(1,3) = 0; homeServer(0,4) = 1");
        // A killed user leaves the channels before these merge, and an empty one does not merge.
        SCRIPT.run("createServers(2) = 0; signOn(1,7) = 1; join(1,7,0) = 1; '+s';"
                + "applyModes(1,7,0) = 1; changeNick(1,7,8) = 0; advance(2) = 2; signOn(0,8) = 1;"
                + "advance(1) = 3; changeNick(1,8,7) = 0; changeNick(1,7,8) = 3; join(0,8,0) = 1;"
                + "connect(0,1) = 1; homeServer(1,8) = 0; members(1,0) = 256; operators(1,0) = 256;"
                + "channelTimestamp(1,0) = 3; modes(1,0) = 0; lastDropped() = 0;"
                + "lastDeprived() = 0");
        // A network of several servers merges as a whole.
        SCRIPT.run("createServers(4) = 0; signOn(0,1) = 1; signOn(2,2) = 1; join(0,1,3) = 1;"
                + "connect(0,1) = 0; connect(2,3) = 0; connect(1,3) = 0; visibleUsers(2) = 6;"
                + "members(2,3) = 2; modes(3,3) = 0; channelTimestamp(2,3) = 0; hops(0,2) = 3;"
                + "disconnect(1,3) = 2; visibleUsers(2) = 4; members(2,3) = 0; modes(3,3) = -9");
    }

    private static void disconnect() {
        SCRIPT.run("disconnect(0,0) = -1; disconnect(0,1) = -1; createServers(6) = 0;"
                + "disconnect(0,6) = -1; disconnect(-1,0) = -1; disconnect(4,4) = -1;"
                + "disconnect(0,1) = -2; connect(0,1) = 0; connect(1,2) = 0; connect(2,3) = 0;"
                + "connect(2,4) = 0; disconnect(0,2) = -2; disconnect(2,1) = 3; hops(0,1) = 1;"
                + "hops(1,2) = -9; hops(3,4) = 2; disconnect(1,2) = -2; disconnect(1,0) = 1;"
                + "disconnect(0,1) = -2; disconnect(4,2) = 1; disconnect(2,3) = 1");
        // Both sides keep timestamps, modes, members and operators of their own users.
        SCRIPT.run("createServers(3) = 0; connect(0,1) = 0; connect(1,2) = 0; signOn(0,0) = 1;"
                + "advance(1) = 1; signOn(2,5) = 2; signOn(2,6) = 3; join(0,0,1) = 1;"
                + "join(2,5,1) = 2; join(2,6,1) = 3; '+pmo5'; applyModes(0,0,1) = 3;"
                + "advance(9) = 10; disconnect(2,1) = 1; members(2,1) = 96; operators(2,1) = 32;"
                + "modes(2,1) = 10; channelTimestamp(2,1) = 1; members(1,1) = 1;"
                + "operators(0,1) = 1; modes(1,1) = 10; channelTimestamp(0,1) = 1;"
                + "userTimestamp(2,5) = 1; userTimestamp(1,0) = 0; homeServer(1,5) = -9;"
                + "visibleUsers(2) = 96");
        // After a split the two channels are changed apart.
        SCRIPT.run("createServers(2) = 0; connect(0,1) = 0; signOn(0,0) = 1; signOn(1,1) = 2;"
                + "join(0,0,0) = 1; join(1,1,0) = 2; '+o1i'; applyModes(0,0,0) = 2;"
                + "disconnect(0,1) = 1; '-i+t'; applyModes(1,1,0) = 2; modes(0,0) = 1;"
                + "modes(1,0) = 32; part(0,0,0) = 0; modes(0,0) = -9; modes(1,0) = 32;"
                + "connect(0,1) = 0; modes(0,0) = 32; members(0,0) = 2; signOn(1,0) = -2");
    }

    private static void clock() {
        SCRIPT.run("time() = 0; advance(0) = -1; advance(-1) = -1; advance(1000) = -1;"
                + "advance(2147483647) = -1; advance(-2147483648) = -1; time() = 0;"
                + "advance(1) = 1; advance(999) = 1000; time() = 1000");
        RelayNetwork network = new RelayNetwork();
        for (int k = 1; k <= 10; k++) {
            SCRIPT.on(network, "advance(999) = " + 999 * k);
        }
        SCRIPT.on(network, "advance(10) = -3; advance(999) = -3; advance(1000) = -1;"
                + "time() = 9990; advance(9) = 9999; advance(1) = -3; advance(0) = -1;"
                + "time() = 9999; signOn(0,0) = 1; userTimestamp(0,0) = 9999; undo() = 7;"
                + "undo() = 6; time() = 9990");
    }

    private static void hops() {
        SCRIPT.run("createServers(6) = 0; hops(-1,0) = -1; hops(0,-1) = -1; hops(6,0) = -1;"
                + "hops(3,3) = 0; connect(5,3) = 0; connect(3,1) = 0; connect(1,0) = 0;"
                + "connect(0,2) = 0; hops(5,4) = -9; connect(4,2) = 0; hops(5,4) = 5;"
                + "hops(4,5) = 5; hops(3,2) = 3; hops(1,4) = 3; hops(0,1) = 1; hops(2,2) = 0;"
                + "disconnect(0,1) = 3; hops(5,4) = -9; hops(4,0) = 2");
    }
}
