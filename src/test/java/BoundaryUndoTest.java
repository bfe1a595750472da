/** The boundary cases of promise 31, sentence by sentence. */
public final class BoundaryUndoTest {
    private static Boundary boundary;

    public static void main(String[] args) throws Exception {
        boundary = new Boundary("BoundaryUndoTest");
        latestEdit();
        latestEditOfAChannel();
        stillUndone();
        none();
        boundary.endOfPromises(31, 31);
    }

    private static void latestEdit() {
        boundary.promise(31, "Undoes the latest edit");
        boundary.run("advance(1) = 1; advance(2) = 3; advance(3) = 6; undo() = 2; time() = 3;"
                + "undo() = 1; time() = 1; undo() = 0; time() = 0");
        // What comes after an undo is the latest edit, not what was undone.
        boundary.run("advance(1) = 1; advance(2) = 3; undo() = 1; advance(5) = 6; undo() = 1;"
                + "time() = 1; undo() = 0; time() = 0; undo() = -2");
        // Refused calls and questions in between are no edits.
        boundary.run("advance(1) = 1; signOn(0,0) = 1; advance(0) = -1; advance(1000) = -1;"
                + "signOn(0,0) = -2; time() = 1; appendCharacter(43) = 1; clearText() = 1;"
                + "fewestKills() = 0; undo() = 1; visibleUsers(0) = 0; undo() = 0; time() = 0");
        // Servers come and go with it, and so does what stood on the last of them.
        boundary.run("createServers(6) = 0; signOn(5,9) = 1; join(5,9,3) = 1; createServers(1) = 1;"
                + "visibleUsers(5) = -1; undo() = 3; visibleUsers(5) = 512; members(5,3) = 512;"
                + "undo() = 2; members(5,3) = 0; undo() = 1; visibleUsers(5) = 0; undo() = 0;"
                + "visibleUsers(5) = -1; visibleUsers(0) = 0; visibleUsers(1) = -1");
    }

    /** Each edit of a channel, on the first and on the last server, nick and channel. */
    private static void latestEditOfAChannel() {
        int[][] places = {{0, 0, 0}, {5, 9, 3}};
        for (int[] place : places) {
            String channel = "(" + place[0] + "," + place[2] + ") = ";
            String user = "(" + place[0] + "," + place[1] + "," + place[2] + ") = ";
            int bit = 1 << place[1];
            String there = "members" + channel + (bit + 16) + "; operators" + channel + bit
                    + "; modes" + channel + "33; channelTimestamp" + channel + "7;";
            String begin = "createServers(6) = 0; signOn(" + place[0] + "," + place[1] + ") = 1;"
                    + "signOn(" + place[0] + ",4) = 2; advance(7) = 7; join" + user + "1; join("
                    + place[0] + ",4," + place[2] + ") = 2; '+it'; applyModes" + user + "2;"
                    + "advance(1) = 8;";
            boundary.run(begin + "'-i+mo4-o" + place[1] + "'; applyModes" + user + "4; undo() = 7;"
                    + there);
            boundary.run(begin + "part" + user + "1; undo() = 7;" + there);
            boundary.run(begin + "signOff(" + place[0] + "," + place[1] + ") = 1; undo() = 7;"
                    + there);
            boundary.run(begin + "createServers(6) = 2; signOn(" + place[0] + "," + place[1]
                    + ") = 1; join" + user + "1; channelTimestamp" + channel + "0; undo() = 7;"
                    + "undo() = 6; undo() = 5;" + there);
            boundary.run(begin + "part" + user + "1; part(" + place[0] + ",4," + place[2]
                    + ") = 0; join" + user + "1; modes" + channel + "0; channelTimestamp" + channel
                    + "8; undo() = 7; undo() = 6; undo() = 5;" + there);
        }
    }

    private static void stillUndone() {
        boundary.promise(31, "Returns how many edits can still be undone");
        for (int edits = 0; edits <= 18; edits++) {
            StringBuilder rows = new StringBuilder();
            for (int k = 1; k <= edits; k++) {
                rows.append("advance(1) = " + k + ";");
            }
            for (int left = Math.min(edits, 8) - 1; left >= 0; left--) {
                int undone = Math.min(edits, 8) - left;
                rows.append("undo() = " + left + "; time() = " + (edits - undone) + ";");
            }
            boundary.run(rows + "undo() = -2; time() = " + Math.max(edits - 8, 0));
        }
        // Full again after undos, and never more than eight.
        boundary.run("advance(1) = 1;" + "advance(1) = 2; undo() = 1; ".repeat(20) + "undo() = 0;"
                + "undo() = -2; time() = 0");
        boundary.run(Rows.clock(0, 8991) + "undo() = 7; undo() = 6; undo() = 5; undo() = 4;"
                + "advance(1) = 4996; undo() = 4; time() = 4995; undo() = 3; undo() = 2;"
                + "undo() = 1; undo() = 0; time() = 999; undo() = -2;" + Rows.clock(999, 9990)
                + "undo() = 7; time() = 8991");
    }

    private static void none() {
        boundary.promise(31, "INVALID_STATE if there is none to undo");
        boundary.run("undo() = -2; undo() = -2; advance(1) = 1; undo() = 0; undo() = -2;"
                + "undo() = -2; time() = 0; signOn(0,0) = 1; undo() = 0; undo() = -2");
        // The text buffer is nothing to undo, and stays.
        boundary.run("'+i'; undo() = -2; clearText() = 2; undo() = -2");
        // The ninth edit from the end stays for good.
        boundary.run("createServers(6) = 0; connect(0,5) = 0;" + Rows.clock(0, 7992)
                + "undo() = 7; undo() = 6; undo() = 5; undo() = 4; undo() = 3; undo() = 2;"
                + "undo() = 1; undo() = 0; undo() = -2; time() = 0; hops(0,5) = 1");
        boundary.run("createServers(6) = 0; connect(0,5) = 0;" + Rows.clock(0, 6993)
                + "undo() = 7; undo() = 6; undo() = 5; undo() = 4; undo() = 3; undo() = 2;"
                + "undo() = 1; hops(0,5) = 1; undo() = 0; hops(0,5) = -9; undo() = -2;"
                + "visibleUsers(5) = 0");
    }
}
