/** Promises 26 to 30: forecasts. */
public final class ForecastTest {
    private static final Script SCRIPT = new Script("ForecastTest");

    public static void main(String[] args) {
        wrongInputs();
        burstSize();
        killsIfConnected();
        lostIfDisconnected();
        fewestKills();
        bestFirstLink();
        nothingChanges();
        SCRIPT.end();
    }

    private static void wrongInputs() {
        for (String name : new String[] {"burstSize", "killsIfConnected", "lostIfDisconnected"}) {
            SCRIPT.run(name + "(0,1) = -1; " + name + "(1,0) = -1; " + name + "(-1,0) = -1; "
                    + name + "(0,-1) = -1; " + name + "(6,6) = -1; " + name + "(0,0) = -2;"
                    + "createServers(3) = 0; " + name + "(2,2) = -2; " + name + "(0,3) = -1");
        }
        SCRIPT.run("createServers(3) = 0; connect(0,1) = 0; connect(1,2) = 0;"
                + "burstSize(0,2) = -2; burstSize(1,0) = -2; killsIfConnected(0,2) = -2;"
                + "killsIfConnected(2,1) = -2; lostIfDisconnected(0,2) = -2;"
                + "lostIfDisconnected(2,0) = -2; lostIfDisconnected(1,1) = -2");
    }

    private static void burstSize() {
        // Two bare servers, then servers, users, memberships and modes of both whole networks.
        SCRIPT.run("createServers(4) = 0; burstSize(0,1) = 2; connect(0,1) = 0; burstSize(1,2) = 3;"
                + "signOn(0,0) = 1; signOn(1,1) = 2; signOn(2,0) = 1; burstSize(0,2) = 6;"
                + "join(0,0,0) = 1; join(1,1,0) = 2; join(1,1,3) = 1; burstSize(2,1) = 9;"
                + "'+ims'; applyModes(0,0,0) = 3; '+t'; applyModes(1,1,3) = 1;"
                + "burstSize(0,2) = 13; burstSize(0,3) = 12; burstSize(2,3) = 3;"
                + "join(2,0,0) = 1; '+i'; applyModes(2,0,0) = 1; burstSize(2,0) = 15;"
                + "part(1,1,3) = 0; burstSize(2,0) = 13; kick(0,0,0,0) = 1; burstSize(2,0) = 12;"
                + "part(1,1,0) = 0; burstSize(2,0) = 8");
    }

    private static void killsIfConnected() {
        SCRIPT.run("createServers(4) = 0; killsIfConnected(0,1) = 0; connect(0,1) = 0;"
                + "connect(2,3) = 0; signOn(0,0) = 1; signOn(1,1) = 2; signOn(2,0) = 1;"
                + "signOn(0,5) = 3; signOn(3,6) = 2; killsIfConnected(0,3) = 2; advance(1) = 1;"
                + "signOn(3,1) = 3; killsIfConnected(1,2) = 3; killsIfConnected(2,1) = 3;"
                + "signOff(2,0) = 0; signOn(3,0) = 3; killsIfConnected(3,0) = 2;"
                + "visibleUsers(0) = 35; connect(3,0) = 2");
    }

    private static void lostIfDisconnected() {
        SCRIPT.run("createServers(6) = 0; connect(0,1) = 0; connect(1,2) = 0; connect(3,4) = 0;"
                + "signOn(0,0) = 1; signOn(1,1) = 2; signOn(2,2) = 3; signOn(2,3) = 4;"
                + "signOn(3,0) = 1; signOn(4,4) = 2; signOn(5,9) = 1;"
                + "lostIfDisconnected(0,1) = 3; lostIfDisconnected(1,0) = 3;"
                + "lostIfDisconnected(1,2) = 2; lostIfDisconnected(2,1) = 2;"
                + "lostIfDisconnected(3,4) = 0; lostIfDisconnected(4,3) = 0;"
                + "lostIfDisconnected(4,5) = -2; lostIfDisconnected(0,2) = -2; hops(0,2) = 2;"
                + "connect(5,2) = 0; lostIfDisconnected(1,2) = 3; lostIfDisconnected(2,5) = 1;"
                + "hops(0,5) = 3; hops(3,4) = 1");
    }

    private static void fewestKills() {
        SCRIPT.run("fewestKills() = 0; createServers(6) = 0; fewestKills() = 0; signOn(0,1) = 1;"
                + "signOn(0,2) = 2; signOn(5,3) = 1; fewestKills() = 0; signOn(3,1) = 1;"
                + "fewestKills() = 2; signOn(4,1) = 1; fewestKills() = 2; signOn(2,1) = 1;"
                + "fewestKills() = 4; advance(1) = 1; signOn(1,1) = 1; fewestKills() = 4;"
                + "signOn(5,1) = 2; fewestKills() = 5");
        // Two older pairs must die off before the younger user comes.
        SCRIPT.run("createServers(5) = 0; signOn(0,1) = 1; signOn(2,1) = 1; signOn(1,2) = 1;"
                + "signOn(3,2) = 1; advance(1) = 1; signOn(4,1) = 1; signOn(4,2) = 2;"
                + "fewestKills() = 4; bestFirstLink() = 1; connect(0,2) = 2; connect(1,3) = 2;"
                + "connect(0,4) = 0; connect(1,4) = 0; visibleUsers(0) = 6");
        // The nicks pull apart: nick 1 wants 0 with 1 first, nick 2 wants 0 with 2 first.
        SCRIPT.run("createServers(3) = 0; signOn(0,1) = 1; signOn(1,1) = 1; signOn(0,2) = 2;"
                + "signOn(2,2) = 1; advance(1) = 1; signOn(2,1) = 2; signOn(1,2) = 2;"
                + "fewestKills() = 5; bestFirstLink() = 1; signOn(0,3) = 3; signOn(2,3) = 3;"
                + "advance(1) = 2; signOn(1,3) = 3; fewestKills() = 7; bestFirstLink() = 2");
        // An older user may have to kill one of two equal younger ones before it dies itself.
        SCRIPT.run("createServers(5) = 0; signOn(0,0) = 1; signOn(1,0) = 1; advance(2) = 2;"
                + "signOn(3,0) = 1; signOn(4,0) = 1; fewestKills() = 3; bestFirstLink() = 2;"
                + "connect(0,1) = 2; fewestKills() = 2; undo() = 6; connect(0,2) = 0;"
                + "connect(0,3) = 1; connect(0,1) = 2; connect(0,4) = 0; visibleUsers(0) = 1");
        SCRIPT.run("createServers(5) = 0; signOn(0,0) = 1; signOn(0,2) = 2; signOn(1,0) = 1;"
                + "signOn(1,1) = 2; signOn(2,1) = 1; signOn(3,2) = 1; advance(1) = 1;"
                + "signOn(3,0) = 2; signOn(3,1) = 3; signOn(4,1) = 1; advance(1) = 2;"
                + "signOn(1,2) = 3; signOn(2,0) = 2; fewestKills() = 8; bestFirstLink() = 3");
        // Two users of different timestamps leave one, which must not hide the better plan.
        SCRIPT.run("createServers(3) = 0; signOn(0,0) = 1; signOn(2,0) = 1; signOn(0,1) = 2;"
                + "advance(1) = 1; signOn(1,0) = 1; signOn(1,1) = 2; fewestKills() = 3;"
                + "bestFirstLink() = 2; connect(0,1) = 2; connect(0,2) = 2; undo() = 7;"
                + "undo() = 6; connect(0,2) = 2; connect(0,1) = 1; visibleUsers(0) = 3");
        // Users of one network are not killed.
        SCRIPT.run("createServers(2) = 0; signOn(0,1) = 1; signOn(1,2) = 1; connect(0,1) = 0;"
                + "fewestKills() = 0; bestFirstLink() = -9");
    }

    private static void bestFirstLink() {
        SCRIPT.run("bestFirstLink() = -9; createServers(2) = 0; bestFirstLink() = 1;"
                + "connect(0,1) = 0; bestFirstLink() = -9; createServers(6) = 0;"
                + "bestFirstLink() = 1; connect(5,1) = 0; bestFirstLink() = 1; connect(0,1) = 0;"
                + "bestFirstLink() = 2; connect(2,5) = 0; bestFirstLink() = 3; connect(4,3) = 0;"
                + "bestFirstLink() = 3; connect(4,5) = 0; bestFirstLink() = -9");
        // Only the pair 1 and 2 can begin: server 0 holds the younger user.
        SCRIPT.run("createServers(3) = 0; signOn(1,7) = 1; signOn(2,7) = 1; advance(1) = 1;"
                + "signOn(0,7) = 1; fewestKills() = 2; bestFirstLink() = 12");
        // The networks 1 with 2, and 3 with 5: representatives, not the servers of the users.
        SCRIPT.run("createServers(6) = 0; connect(2,1) = 0; connect(5,3) = 0; connect(4,0) = 0;"
                + "signOn(2,7) = 1; signOn(5,7) = 1; advance(1) = 1; signOn(4,7) = 1;"
                + "fewestKills() = 2; bestFirstLink() = 13; connect(2,5) = 2;"
                + "bestFirstLink() = 1; fewestKills() = 0");
        // Every plan is as bad as the others, so the first pair is taken.
        SCRIPT.run("createServers(4) = 0; signOn(1,0) = 1; signOn(3,0) = 1; fewestKills() = 2;"
                + "bestFirstLink() = 1");
        // The pair 0 and 1 would kill the user who could be left; 0 and 2 kills nobody yet.
        SCRIPT.run("createServers(4) = 0; signOn(0,2) = 1; signOn(3,2) = 1; advance(1) = 1;"
                + "signOn(1,2) = 1; signOn(2,3) = 1; fewestKills() = 2; bestFirstLink() = 2;"
                + "signOn(2,2) = 2; signOff(1,2) = 0; fewestKills() = 2; bestFirstLink() = 1;"
                + "signOn(1,2) = 1; fewestKills() = 3; bestFirstLink() = 1;"
                + "connect(0,1) = 1; connect(0,3) = 2; connect(0,2) = 0; visibleUsers(0) = 12");
    }

    private static void nothingChanges() {
        String begin = "createServers(5) = 0; connect(0,1) = 0; connect(1,2) = 0; signOn(0,1) = 1;"
                + "signOn(3,1) = 1; signOn(4,1) = 1; join(0,1,0) = 1; join(3,1,0) = 1; '+i';";
        String asked = begin + "burstSize(0,3) = 8; killsIfConnected(3,4) = 2;"
                + "lostIfDisconnected(0,1) = 0; fewestKills() = 2; bestFirstLink() = 3;";
        SCRIPT.due("forecasts", "changes",
                SCRIPT.view(begin).equals(SCRIPT.view(asked)) ? 0 : 1, 0);
        SCRIPT.run(asked + "hops(0,2) = 2; visibleUsers(4) = 2; clearText() = 2; undo() = 7");
    }
}
