/** Promises 8 to 13: users. */
public final class UsersTest {
    private static final Script SCRIPT = new Script("UsersTest");

    public static void main(String[] args) {
        signOn();
        signOff();
        changeNick();
        questions();
        SCRIPT.end();
    }

    private static void signOn() {
        SCRIPT.run("signOn(1,0) = -1; signOn(-1,0) = -1; signOn(0,-1) = -1; signOn(0,10) = -1;"
                + "signOn(0,0) = 1; signOn(0,9) = 2; signOn(0,9) = -2; visibleUsers(0) = 513");
        // The users of the network are counted, and the nick is taken in all of it.
        SCRIPT.run("createServers(3) = 0; signOn(0,1) = 1; signOn(1,1) = 1; signOn(2,2) = 1;"
                + "connect(1,2) = 0; signOn(2,1) = -2; signOn(1,2) = -2; advance(4) = 4;"
                + "signOn(1,3) = 3; userTimestamp(2,3) = 4; homeServer(2,3) = 1; signOn(0,2) = 2;"
                + "visibleUsers(0) = 6; visibleUsers(1) = 14");
    }

    private static void signOff() {
        SCRIPT.run("signOff(1,0) = -1; signOff(0,10) = -1; signOff(0,-1) = -1; signOff(0,0) = -2;"
                + "signOn(0,0) = 1; signOff(0,1) = -2; signOff(0,0) = 0; signOff(0,0) = -2;"
                + "visibleUsers(0) = 0; signOn(0,0) = 1");
        // The user leaves all channels; those without other members cease to exist.
        SCRIPT.run("createServers(2) = 0; connect(0,1) = 0; signOn(0,3) = 1; signOn(1,4) = 2;"
                + "join(0,3,0) = 1; join(0,3,2) = 1; join(0,3,3) = 1; join(1,4,3) = 2;"
                + "signOff(1,3) = -2; signOff(0,4) = -2; signOff(0,3) = 3; members(0,0) = 0;"
                + "modes(0,2) = -9; members(0,3) = 16; operators(0,3) = 0; signOn(0,3) = 2;"
                + "join(0,3,3) = 2; operators(0,3) = 0; signOff(1,4) = 1; members(1,3) = 8");
    }

    private static void changeNick() {
        SCRIPT.run("changeNick(1,0,1) = -1; changeNick(0,10,1) = -1; changeNick(0,0,10) = -1;"
                + "changeNick(0,-1,1) = -1; changeNick(0,0,-1) = -1; changeNick(0,0,1) = -2;"
                + "signOn(0,0) = 1; changeNick(0,0,0) = -2; signOn(0,1) = 2;"
                + "changeNick(0,0,1) = -2; advance(3) = 3; changeNick(0,0,2) = 0;"
                + "userTimestamp(0,2) = 3; userTimestamp(0,0) = -9; visibleUsers(0) = 6;"
                + "advance(4) = 7; changeNick(0,2,0) = 3; userTimestamp(0,0) = 7;"
                + "changeNick(0,2,5) = -2");
        SCRIPT.run("createServers(3) = 0; connect(0,1) = 0; signOn(0,1) = 1; signOn(1,2) = 2;"
                + "signOn(2,3) = 1; changeNick(0,1,2) = -2; changeNick(1,1,4) = -2;"
                + "changeNick(0,1,3) = 0; homeServer(1,3) = 0; homeServer(2,3) = 2");
        // Memberships and operator status stay, and the old nick keeps none of them.
        SCRIPT.run("signOn(0,1) = 1; signOn(0,2) = 2; join(0,1,0) = 1; join(0,2,0) = 2;"
                + "join(0,2,1) = 1; join(0,1,1) = 2; changeNick(0,1,9) = 0; members(0,0) = 516;"
                + "operators(0,0) = 512; members(0,1) = 516; operators(0,1) = 4; join(0,1,0) = -2;"
                + "signOn(0,1) = 3; join(0,1,0) = 3; operators(0,0) = 512; kick(0,9,0,1) = 2;"
                + "signOff(0,9) = 2");
        // The last server, the last nick and the last channel, and the same nick next door.
        SCRIPT.run("createServers(6) = 0; signOn(5,9) = 1; signOn(4,9) = 1; join(5,9,0) = 1;"
                + "join(5,9,3) = 1; changeNick(4,9,8) = 0; members(4,3) = 0; members(5,0) = 512;"
                + "changeNick(5,9,0) = 0; members(5,3) = 1; operators(5,0) = 1;"
                + "members(4,0) = 0; signOff(5,0) = 2; signOff(4,8) = 0");
    }

    private static void questions() {
        SCRIPT.run("homeServer(1,0) = -1; homeServer(0,10) = -1; homeServer(0,-1) = -1;"
                + "homeServer(-1,0) = -1; userTimestamp(1,0) = -1; userTimestamp(0,10) = -1;"
                + "userTimestamp(0,-1) = -1; visibleUsers(1) = -1; visibleUsers(-1) = -1;"
                + "homeServer(0,0) = -9; userTimestamp(0,0) = -9; visibleUsers(0) = 0");
        SCRIPT.run("createServers(4) = 0; connect(3,1) = 0; advance(8) = 8; signOn(3,9) = 1;"
                + "homeServer(1,9) = 3; homeServer(3,9) = 3; homeServer(0,9) = -9;"
                + "userTimestamp(1,9) = 8; userTimestamp(2,9) = -9; visibleUsers(1) = 512;"
                + "visibleUsers(0) = 0; advance(1) = 9; userTimestamp(3,9) = 8; signOn(0,9) = 1;"
                + "homeServer(0,9) = 0; userTimestamp(0,9) = 9; userTimestamp(1,9) = 8");
        RelayNetwork full = new RelayNetwork();
        for (int nick = 0; nick < 10; nick++) {
            SCRIPT.on(full, "signOn(0," + nick + ") = " + (nick + 1));
        }
        SCRIPT.on(full, "visibleUsers(0) = 1023; createServers(1) = 10");
    }
}
