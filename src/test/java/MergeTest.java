/** Promises 3, 24 and 25: how channels merge, and the results of the last merge. */
public final class MergeTest {
    private static final Script SCRIPT = new Script("MergeTest");

    public static void main(String[] args) {
        sameAge();
        olderWins();
        oneSide();
        severalChannels();
        lastResults();
        SCRIPT.end();
    }

    private static void sameAge() {
        SCRIPT.run("createServers(2) = 0; signOn(0,0) = 1; signOn(0,1) = 2; signOn(1,2) = 1;"
                + "signOn(1,3) = 2; join(0,0,2) = 1; join(0,1,2) = 2; join(1,2,2) = 1;"
                + "join(1,3,2) = 2; '+im'; applyModes(0,0,2) = 2; '+mt'; applyModes(1,2,2) = 2;"
                + "advance(4) = 4; connect(0,1) = 0; members(0,2) = 15; operators(0,2) = 5;"
                + "operators(1,2) = 5; modes(0,2) = 35; modes(1,2) = 35;"
                + "channelTimestamp(0,2) = 0; channelTimestamp(1,2) = 0; lastDeprived() = 0;"
                + "lastDropped() = 0");
    }

    private static void olderWins() {
        String begin = "createServers(4) = 0; connect(0,1) = 0; connect(2,3) = 0; signOn(0,0) = 1;"
                + "signOn(1,1) = 2; join(1,1,0) = 1; join(0,0,0) = 2; '+in';"
                + "applyModes(1,1,0) = 2; advance(3) = 3; signOn(2,2) = 1; signOn(3,3) = 2;"
                + "join(3,3,0) = 1; join(2,2,0) = 2; '+o2nst'; applyModes(3,3,0) = 4;";
        String after = "members(3,0) = 15; operators(3,0) = 2; operators(0,0) = 2;"
                + "modes(0,0) = 5; modes(1,0) = 5; modes(2,0) = 5; modes(3,0) = 5;"
                + "channelTimestamp(2,0) = 0; channelTimestamp(3,0) = 0;"
                + "channelTimestamp(0,0) = 0; lastDeprived() = 2; lastDropped() = 3;";
        SCRIPT.run(begin + "connect(0,2) = 0;" + after + "disconnect(0,2) = 2;"
                + "members(2,0) = 12; operators(2,0) = 0; modes(3,0) = 5;"
                + "channelTimestamp(3,0) = 0; lastDeprived() = 2; lastDropped() = 3");
        SCRIPT.run(begin + "connect(3,1) = 0;" + after);
        // A killed operator is not deprived: the nicks are settled first.
        SCRIPT.run(begin + "changeNick(0,0,3) = 0; connect(0,2) = 2; members(0,0) = 6;"
                + "operators(0,0) = 2; lastDeprived() = 1; lastDropped() = 3");
    }

    private static void oneSide() {
        String begin = "createServers(3) = 0; connect(1,2) = 0; signOn(0,0) = 1; signOn(1,1) = 1;"
                + "advance(2) = 2; join(0,0,3) = 1; '+ps'; applyModes(0,0,3) = 2;";
        String after = "members(2,3) = 1; operators(1,3) = 1; modes(1,3) = 24; modes(2,3) = 24;"
                + "channelTimestamp(2,3) = 2; channelTimestamp(0,3) = 2; lastDeprived() = 0;"
                + "lastDropped() = 0; join(1,1,3) = 2; operators(0,3) = 1";
        SCRIPT.run(begin + "connect(0,1) = 0;" + after);
        SCRIPT.run(begin + "connect(2,0) = 0;" + after);
        // What a server remembers of a channel that ceased to exist has no part in a merge.
        SCRIPT.run("createServers(2) = 0; signOn(1,1) = 1; join(1,1,0) = 1; '+imn';"
                + "applyModes(1,1,0) = 3; part(1,1,0) = 0; advance(9) = 9; signOn(0,0) = 1;"
                + "join(0,0,0) = 1; '+t'; applyModes(0,0,0) = 1; connect(0,1) = 0;"
                + "modes(1,0) = 32; channelTimestamp(1,0) = 9; operators(1,0) = 1;"
                + "lastDeprived() = 0; lastDropped() = 0; burstSize(0,1) = -2");
    }

    private static void severalChannels() {
        // Channel 0 is older on the left, channel 1 on the right; a user counts in each.
        SCRIPT.run("createServers(2) = 0; signOn(0,0) = 1; signOn(1,1) = 1; signOn(1,2) = 2;"
                + "join(0,0,0) = 1; join(1,1,1) = 1; join(0,0,3) = 1; advance(1) = 1;"
                + "join(1,1,0) = 1; join(1,2,0) = 2; join(0,0,1) = 1; join(1,1,3) = 1;"
                + "'+o2im'; applyModes(1,1,0) = 3; '+p'; applyModes(0,0,1) = 1; '+imnpst';"
                + "applyModes(1,1,3) = 6; connect(1,0) = 0; lastDeprived() = 4;"
                + "lastDropped() = 9; operators(0,0) = 1; operators(0,1) = 2;"
                + "operators(0,3) = 1; modes(1,0) = 0; modes(1,1) = 0; modes(1,3) = 0;"
                + "members(1,0) = 7; members(1,1) = 3; members(0,3) = 3; members(0,2) = 0;"
                + "channelTimestamp(0,1) = 0");
    }

    private static void lastResults() {
        // Each merge replaces the results, errors and splits do not.
        SCRIPT.run("createServers(3) = 0; lastDeprived() = 0; lastDropped() = 0; signOn(0,0) = 1;"
                + "join(0,0,0) = 1; advance(1) = 1; signOn(1,1) = 1; join(1,1,0) = 1; '+i';"
                + "applyModes(1,1,0) = 1; connect(0,1) = 0; lastDeprived() = 1;"
                + "lastDropped() = 1; connect(0,1) = -2; connect(0,0) = -1; signOff(1,1) = 1;"
                + "disconnect(0,1) = 1; lastDeprived() = 1; lastDropped() = 1; undo() = 7;"
                + "lastDeprived() = 1; connect(0,2) = 0; lastDeprived() = 0; lastDropped() = 0;"
                + "undo() = 7; lastDeprived() = 1; lastDropped() = 1; createServers(3) = 1;"
                + "lastDeprived() = 0; lastDropped() = 0");
    }
}
