/** Promises 14 to 23: channels and mode texts. */
public final class ChannelsTest {
    private static final Script SCRIPT = new Script("ChannelsTest");

    public static void main(String[] args) {
        join();
        part();
        kick();
        buffer();
        modeTexts();
        textErrors();
        everyCharacter();
        questions();
        SCRIPT.end();
    }

    private static void join() {
        SCRIPT.run("join(1,0,0) = -1; join(0,10,0) = -1; join(0,-1,0) = -1; join(0,0,4) = -1;"
                + "join(0,0,-1) = -1; join(0,0,0) = -2; signOn(0,0) = 1; join(0,0,0) = 1;"
                + "join(0,0,0) = -2; join(0,0,3) = 1; members(0,0) = 1; members(0,3) = 1;"
                + "members(0,1) = 0");
        SCRIPT.run("createServers(3) = 0; connect(0,1) = 0; signOn(0,4) = 1; signOn(1,5) = 2;"
                + "signOn(2,4) = 1; advance(2) = 2; join(1,4,1) = -2; join(0,4,1) = 1;"
                + "advance(1) = 3; join(1,5,1) = 2; operators(1,1) = 16; members(1,1) = 48;"
                + "channelTimestamp(1,1) = 2; join(2,4,1) = 1; channelTimestamp(2,1) = 3;"
                + "operators(2,1) = 16; members(2,1) = 16");
        // A channel that ceased to exist and is made again begins anew.
        SCRIPT.run("signOn(0,1) = 1; signOn(0,2) = 2; join(0,1,0) = 1; '+ims';"
                + "applyModes(0,1,0) = 3; part(0,1,0) = 0; advance(6) = 6; join(0,2,0) = 1;"
                + "modes(0,0) = 0; channelTimestamp(0,0) = 6; operators(0,0) = 4;"
                + "join(0,1,0) = 2; operators(0,0) = 4");
    }

    private static void part() {
        SCRIPT.run("part(1,0,0) = -1; part(0,10,0) = -1; part(0,-1,0) = -1; part(0,0,4) = -1;"
                + "part(0,0,-1) = -1; part(0,0,0) = -2; signOn(0,0) = 1; part(0,0,0) = -2;"
                + "join(0,0,0) = 1; part(0,0,1) = -2; part(0,0,0) = 0; part(0,0,0) = -2");
        // A channel without operators stays; the last member ends it.
        SCRIPT.run("createServers(2) = 0; connect(0,1) = 0; signOn(0,1) = 1; signOn(1,2) = 2;"
                + "signOn(1,3) = 3; join(0,1,2) = 1; join(1,2,2) = 2; join(1,3,2) = 3; '+n';"
                + "applyModes(0,1,2) = 1; part(1,1,2) = -2; part(0,1,2) = 2; members(0,2) = 12;"
                + "operators(0,2) = 0; modes(0,2) = 4; channelTimestamp(0,2) = 0;"
                + "part(1,3,2) = 1; part(1,2,2) = 0; members(0,2) = 0; modes(1,2) = -9;"
                + "channelTimestamp(1,2) = -9");
    }

    private static void kick() {
        SCRIPT.run("kick(1,0,0,0) = -1; kick(0,10,0,0) = -1; kick(0,-1,0,0) = -1;"
                + "kick(0,0,4,0) = -1; kick(0,0,-1,0) = -1; kick(0,0,0,10) = -1;"
                + "kick(0,0,0,-1) = -1; kick(0,0,0,0) = -2; signOn(0,0) = 1; kick(0,0,0,0) = -2;"
                + "join(0,0,0) = 1; kick(0,0,0,1) = -2; signOn(0,1) = 2; kick(0,0,0,1) = -2;"
                + "kick(0,1,0,0) = -2; join(0,1,0) = 2; kick(0,1,0,0) = -2; kick(0,1,0,1) = -2;"
                + "kick(0,0,1,1) = -2; kick(0,0,0,1) = 1; members(0,0) = 1; kick(0,0,0,0) = 0;"
                + "members(0,0) = 0; modes(0,0) = -9");
        // The target may live on any server of the network, the operator only on the one named.
        SCRIPT.run("createServers(3) = 0; connect(0,1) = 0; signOn(0,6) = 1; signOn(1,7) = 2;"
                + "signOn(2,8) = 1; join(0,6,1) = 1; join(1,7,1) = 2; join(2,8,1) = 1;"
                + "kick(1,6,1,7) = -2; kick(0,6,1,8) = -2; '+o7'; applyModes(0,6,1) = 1;"
                + "kick(1,7,1,6) = 1; operators(0,1) = 128; members(0,1) = 128;"
                + "join(0,6,1) = 2; operators(0,1) = 128; kick(0,6,1,7) = -2");
    }

    private static void buffer() {
        SCRIPT.run("clearText() = 0; appendCharacter(-1) = -1; appendCharacter(256) = -1;"
                + "appendCharacter(2147483647) = -1; appendCharacter(-2147483648) = -1;"
                + "appendCharacter(0) = 1; appendCharacter(255) = 2; clearText() = 2;"
                + "clearText() = 0; appendCharacter(43) = 1; undo() = -2");
        RelayNetwork network = new RelayNetwork();
        for (int length = 1; length <= 40; length++) {
            SCRIPT.on(network, "appendCharacter(105) = " + length);
        }
        SCRIPT.on(network, "appendCharacter(105) = -3; appendCharacter(256) = -1;"
                + "clearText() = 40; appendCharacter(105) = 1");
        RelayNetwork full = new RelayNetwork();
        SCRIPT.on(full, "signOn(0,0) = 1; join(0,0,0) = 1; '+iiiiiiiiiiiiiiiiiiiiiiiiiiiiiiiiiiiiiii';"
                + "applyModes(0,0,0) = 39; clearText() = 0; modes(0,0) = 1;"
                + "'+iiiiiiiiiiiiiiiiiiiiiiiiiiiiiiiiiiiiiio';"
                + "applyModes(0,0,0) = -50; clearText() = 40;"
                + "'+iiiiiiiiiiiiiiiiiiiiiiiiiiiiiiiiiiiiii ';"
                + "applyModes(0,0,0) = -49; clearText() = 40");
    }

    private static void modeTexts() {
        String begin = "signOn(0,0) = 1; signOn(0,5) = 2; signOn(0,9) = 3; join(0,0,1) = 1;"
                + "join(0,5,1) = 2; join(0,9,1) = 3;";
        String[] letters = {"i", "m", "n", "p", "s", "t"};
        for (int mode = 0; mode < letters.length; mode++) {
            SCRIPT.run(begin + "'+" + letters[mode] + "'; applyModes(0,0,1) = 1; modes(0,1) = "
                    + (1 << mode) + "; '-" + letters[mode] + "'; applyModes(0,0,1) = 1;"
                    + "modes(0,1) = 0; '+imnpst'; applyModes(0,0,1) = 6; modes(0,1) = 63;"
                    + "'-" + letters[mode] + "'; applyModes(0,0,1) = 1; modes(0,1) = "
                    + (63 - (1 << mode)));
        }
        SCRIPT.run(begin + "'+im-i+t'; applyModes(0,0,1) = 4; modes(0,1) = 34; clearText() = 0;"
                + "'-t+tt-n'; applyModes(0,0,1) = 4; modes(0,1) = 34; '+i-i'; applyModes(0,0,1) = 2;"
                + "modes(0,1) = 34; modes(0,0) = -9; operators(0,1) = 1; channelTimestamp(0,1) = 0");
        // The operator who is deprived by the text goes on with it, but may not begin another.
        SCRIPT.run(begin + "'-o0+o5o9s-o9'; applyModes(0,0,1) = 5; operators(0,1) = 32;"
                + "modes(0,1) = 16; '+i'; applyModes(0,0,1) = -2; applyModes(0,9,1) = -2;"
                + "applyModes(0,5,1) = 1; modes(0,1) = 17; '-o5'; applyModes(0,5,1) = 1;"
                + "operators(0,1) = 0; members(0,1) = 545");
        // Members of the network count, wherever they live.
        SCRIPT.run("createServers(3) = 0; connect(0,2) = 0; signOn(0,0) = 1; signOn(2,1) = 2;"
                + "signOn(1,3) = 1; join(0,0,0) = 1; join(2,1,0) = 2; join(1,3,0) = 1; '+mo1';"
                + "applyModes(2,0,0) = -2; applyModes(0,0,0) = 2; operators(2,0) = 3;"
                + "modes(2,0) = 2; modes(1,0) = 0; operators(1,0) = 8; '-mo0';"
                + "applyModes(2,1,0) = 2; operators(0,0) = 2; modes(0,0) = 0; '+o3';"
                + "applyModes(2,1,0) = -12");
    }

    private static void textErrors() {
        String begin = "signOn(0,0) = 1; signOn(0,5) = 2; signOn(0,6) = 3; join(0,0,1) = 1;"
                + "join(0,5,1) = 2; join(0,6,0) = 1;";
        String[] texts = {"", "i", "+", "-", "++", "+-", "+i+", "+i++", "+i-", "+o", "+oo", "+o+",
            "+o6", "+o1", "+o5o", "+o55", "+i5", "+5", "5", "o5", " +i", "+ i", "+i ", "+I",
            "+x", "+ii-mo0x", "+o5-o5+o5+", "+imnpsto", "+imnpstu", "+o5i-o:", "+o/"};
        int[] offsets = {0, 0, 1, 1, 1, 1, 3, 3, 3, 2, 2, 2, 2, 2, 4, 3, 2, 1, 0, 0, 0, 1, 2, 1,
            1, 7, 10, 8, 7, 6, 2};
        for (int k = 0; k < texts.length; k++) {
            String text = texts[k].isEmpty() ? "" : "'" + texts[k] + "';";
            String twice = begin + text + ("applyModes(0,0,1) = " + (-10 - offsets[k]) + ";")
                    .repeat(2);
            boolean same = SCRIPT.view(begin).equals(SCRIPT.view(twice));
            SCRIPT.due(texts[k], "changes", same ? 0 : 1, 0);
            SCRIPT.run(twice + "clearText() = " + texts[k].length() + "; undo() = 5");
        }
        // Wrong arguments and a wrong state come before the text, and keep it too.
        SCRIPT.run(begin + "'+x'; applyModes(1,0,1) = -1; applyModes(0,10,1) = -1;"
                + "applyModes(0,-1,1) = -1; applyModes(0,0,4) = -1; applyModes(0,0,-1) = -1;"
                + "applyModes(0,1,1) = -2; applyModes(0,5,1) = -2; applyModes(0,0,0) = -2;"
                + "applyModes(0,0,3) = -2; applyModes(0,0,1) = -11; clearText() = 2;"
                + "'+i'; applyModes(0,5,1) = -2; clearText() = 2");
    }

    private static void everyCharacter() {
        for (int code = 0; code <= 255; code++) {
            boolean letter = "imnpst".indexOf(code) >= 0;
            boolean sign = code == '+' || code == '-';
            String begin = "signOn(0,0) = 1; join(0,0,0) = 1; ";
            String append = "appendCharacter(" + code + ") = ";
            SCRIPT.run(begin + append + "1; 'i'; applyModes(0,0,0) = " + (sign ? 1 : -10));
            SCRIPT.run(begin + "'+'; " + append + "2; applyModes(0,0,0) = "
                    + (letter ? 1 : code == 'o' ? -12 : -11));
            SCRIPT.run(begin + "'+t'; " + append + "3; applyModes(0,0,0) = "
                    + (letter ? 2 : code == 'o' || sign ? -13 : -12));
            SCRIPT.run(begin + "'+to'; " + append + "4; applyModes(0,0,0) = "
                    + (code == '0' ? 2 : -13));
        }
    }

    private static void questions() {
        for (String name : new String[] {"members", "operators", "modes", "channelTimestamp"}) {
            SCRIPT.run(name + "(1,0) = -1; " + name + "(-1,0) = -1; " + name + "(0,4) = -1; "
                    + name + "(0,-1) = -1; " + name + "(6,4) = -1");
        }
        SCRIPT.run("members(0,3) = 0; operators(0,3) = 0; modes(0,3) = -9;"
                + "channelTimestamp(0,3) = -9; advance(5) = 5; signOn(0,9) = 1; join(0,9,3) = 1;"
                + "members(0,3) = 512; operators(0,3) = 512; modes(0,3) = 0;"
                + "channelTimestamp(0,3) = 5; members(0,2) = 0");
        SCRIPT.run("createServers(3) = 0; connect(0,1) = 0; advance(7) = 7; signOn(1,2) = 1;"
                + "join(1,2,0) = 1; '+st'; applyModes(1,2,0) = 2; members(0,0) = 4;"
                + "operators(0,0) = 4; modes(0,0) = 48; channelTimestamp(0,0) = 7;"
                + "members(2,0) = 0; operators(2,0) = 0; modes(2,0) = -9;"
                + "channelTimestamp(2,0) = -9");
    }
}
