/** The four examples of the document, each on a new object. */
public final class ExamplesTest {
    public static void main(String[] args) {
        Script script = new Script("ExamplesTest");
        script.run("createServers(2) = 0; signOn(0,1) = 1; advance(5) = 5; signOn(1,1) = 1;"
                + "signOn(1,2) = 2; killsIfConnected(0,1) = 1; connect(0,1) = 1;"
                + "homeServer(1,1) = 0; visibleUsers(0) = 6; disconnect(0,1) = 1;"
                + "visibleUsers(1) = 4");
        script.run("createServers(2) = 0; signOn(0,1) = 1; join(0,1,0) = 1; advance(1) = 1;"
                + "signOn(1,2) = 1; join(1,2,0) = 1; appendCharacter(43) = 1;"
                + "appendCharacter(115) = 2; applyModes(1,2,0) = 1; connect(0,1) = 0;"
                + "members(0,0) = 6; operators(0,0) = 2; modes(0,0) = 0; lastDeprived() = 1;"
                + "lastDropped() = 1; channelTimestamp(1,0) = 0");
        script.run("createServers(3) = 0; signOn(0,4) = 1; signOn(1,4) = 1; advance(1) = 1;"
                + "signOn(2,4) = 1; fewestKills() = 2; bestFirstLink() = 1; connect(0,1) = 2;"
                + "connect(1,2) = 0; homeServer(0,4) = 2");
        script.run("signOn(0,0) = 1; join(0,0,1) = 1; appendCharacter(43) = 1;"
                + "appendCharacter(109) = 2; appendCharacter(111) = 3; appendCharacter(51) = 4;"
                + "applyModes(0,0,1) = -13; clearText() = 4; connect(0,1) = -1;"
                + "kick(0,0,1,0) = 0; modes(0,1) = -9");
        script.end();
    }
}
