/** Promise 31: undo. */
public final class UndoTest {
    private static final Script SCRIPT = new Script("UndoTest");

    public static void main(String[] args) {
        eachEdit();
        eightEdits();
        errorsAndQuestionsAreNoEdits();
        bufferStays();
        editsAfterUndo();
        SCRIPT.end();
    }

    private static void eachEdit() {
        String begin = "createServers(3) = 0; signOn(0,0) = 1; signOn(1,0) = 1; signOn(1,1) = 2;"
                + "join(1,1,0) = 1; advance(2) = 2; signOn(0,2) = 2; join(0,2,0) = 1; '+it';"
                + "applyModes(0,2,0) = 2; connect(1,2) = 0; join(1,0,0) = 2; '+so0';";
        String[] edits = {"createServers(2) = 4", "createServers(6) = 4", "connect(0,1) = 2",
            "connect(2,0) = 2", "disconnect(1,2) = 1", "advance(7) = 9", "signOn(2,5) = 3",
            "signOff(1,1) = 1", "signOff(0,0) = 0", "changeNick(1,1,9) = 0", "join(1,1,3) = 1",
            "join(0,0,0) = 2", "part(0,2,0) = 0", "part(1,0,0) = 1", "kick(1,1,0,0) = 1",
            "kick(0,2,0,2) = 0", "applyModes(1,1,0) = 2"};
        for (String edit : edits) {
            String before = SCRIPT.view(begin);
            SCRIPT.due(edit, "changes", before.equals(SCRIPT.view(begin + edit)) ? 0 : 1, 1);
            String undone = SCRIPT.view(begin + edit + "; undo() = 7");
            SCRIPT.due(edit, "undone", before.equals(undone) ? 1 : 0, 1);
        }
        // The results of the last merge come back as well.
        SCRIPT.run(begin + "connect(0,1) = 2; lastDeprived() = 1; lastDropped() = 2;"
                + "createServers(1) = 2; lastDeprived() = 0; undo() = 7; lastDeprived() = 1;"
                + "lastDropped() = 2; undo() = 6; lastDeprived() = 0; lastDropped() = 0");
    }

    private static void eightEdits() {
        SCRIPT.run("undo() = -2; advance(1) = 1; undo() = 0; time() = 0; undo() = -2");
        RelayNetwork network = new RelayNetwork();
        for (int k = 1; k <= 11; k++) {
            SCRIPT.on(network, "advance(1) = " + k);
        }
        for (int k = 7; k >= 0; k--) {
            SCRIPT.on(network, "undo() = " + k + "; time() = " + (k + 3));
        }
        SCRIPT.on(network, "undo() = -2; undo() = -2; time() = 3; advance(5) = 8; undo() = 0;"
                + "time() = 3; undo() = -2");
    }

    private static void errorsAndQuestionsAreNoEdits() {
        SCRIPT.run("createServers(2) = 0; signOn(0,1) = 1; join(0,1,0) = 1;"
                + "createServers(9) = -1; connect(0,0) = -1; disconnect(0,1) = -2;"
                + "advance(0) = -1; signOn(0,1) = -2; signOff(0,2) = -2; changeNick(0,1,1) = -2;"
                + "join(0,1,0) = -2; part(0,1,1) = -2; kick(0,1,0,2) = -2;"
                + "applyModes(0,1,0) = -10; appendCharacter(43) = 1; clearText() = 1;"
                + "applyModes(1,1,0) = -2; undo() = 2; undo() = 1; undo() = 0;"
                + "visibleUsers(1) = -1; undo() = -2");
        RelayNetwork network = SCRIPT.run("createServers(2) = 0; signOn(0,1) = 1;");
        Looks.users(network);
        Looks.channels(network);
        Looks.pairs(network);
        SCRIPT.on(network, "undo() = 1; undo() = 0; undo() = -2");
        // An edit that leaves everything as it was is one all the same.
        SCRIPT.run("createServers(1) = 0; signOn(0,1) = 1; join(0,1,0) = 1; '-i';"
                + "applyModes(0,1,0) = 1; undo() = 3; members(0,0) = 2; undo() = 2;"
                + "members(0,0) = 0; undo() = 1; visibleUsers(0) = 0; undo() = 0; undo() = -2");
    }

    private static void bufferStays() {
        SCRIPT.run("signOn(0,1) = 1; join(0,1,0) = 1; '+i'; applyModes(0,1,0) = 1; undo() = 2;"
                + "modes(0,0) = 0; clearText() = 0; '+ms'; undo() = 1; clearText() = 3; '+t';"
                + "undo() = 0; undo() = -2; clearText() = 2");
    }

    private static void editsAfterUndo() {
        RelayNetwork network = new RelayNetwork();
        for (int k = 1; k <= 10; k++) {
            SCRIPT.on(network, "advance(1) = " + k);
        }
        SCRIPT.on(network, "undo() = 7; undo() = 6; undo() = 5; time() = 7; advance(10) = 17;"
                + "undo() = 5; time() = 7; advance(20) = 27; advance(20) = 47; undo() = 6;"
                + "time() = 27; undo() = 5; undo() = 4; time() = 6; undo() = 3; undo() = 2;"
                + "undo() = 1; undo() = 0; time() = 2; undo() = -2");
    }
}
