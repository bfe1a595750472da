/** The boundary cases of promises 17 to 19, sentence by sentence. */
public final class BoundaryTextTest {
    /** On server 0 nick 0 is the operator of channels 0 and 3, nick 5 a member, 9 in another. */
    private static final String WORLD = "createServers(3) = 0; connect(0,1) = 0; signOn(0,0) = 1;"
            + "signOn(1,5) = 2; signOn(0,9) = 3; signOn(2,7) = 1; join(0,0,0) = 1;"
            + "join(0,0,3) = 1; join(1,5,0) = 2; join(0,9,1) = 1; join(2,7,0) = 1;";
    private static Boundary boundary;

    public static void main(String[] args) throws Exception {
        boundary = new Boundary("BoundaryTextTest");
        appendCharacter();
        clearText();
        applyModes();
        applyModesItems();
        applyModesArguments();
        applyModesRefused();
        applyModesTextErrors();
        textIsKept();
        boundary.endOfPromises(17, 19);
    }

    private static String letters(int count) {
        return count == 0 ? "" : "'" + "i".repeat(count) + "';";
    }

    private static void appendCharacter() {
        boundary.promise(17, "Appends a character to the text buffer");
        boundary.run("signOn(0,0) = 1; join(0,0,0) = 1; appendCharacter(43) = 1;"
                + "applyModes(0,0,0) = -11; appendCharacter(116) = 2; applyModes(0,0,0) = 1;"
                + "modes(0,0) = 32");

        boundary.promise(17, "`character`: its code, 0 to 255");
        boundary.run("appendCharacter(-1) = -1; appendCharacter(0) = 1; appendCharacter(256) = -1;"
                + "appendCharacter(255) = 2; clearText() = 2");

        boundary.promise(17, "Returns the new length of the buffer");
        StringBuilder rows = new StringBuilder();
        for (int length = 1; length <= 40; length++) {
            rows.append("appendCharacter(" + 6 * length + ") = " + length + ";");
        }
        boundary.run(rows + "appendCharacter(0) = -3; clearText() = 40; appendCharacter(0) = 1");

        boundary.promise(17, "INVALID_ARGUMENT if the code is out of range");
        boundary.outside("", "appendCharacter(?)", 0, 255);
        boundary.outside(WORLD + "'+i';", "appendCharacter(?)", 0, 255);
        boundary.outside("signOn(0,0) = 1; join(0,0,0) = 1; '+';" + letters(39),
                "appendCharacter(?)", 0, 255);
        // Codes that would be a sign or a letter if only their last eight bits were kept.
        boundary.run("signOn(0,0) = 1; join(0,0,0) = 1; appendCharacter(299) = -1;"
                + "appendCharacter(-213) = -1; appendCharacter(65579) = -1;"
                + "applyModes(0,0,0) = -10");

        boundary.promise(17, "LIMIT_REACHED if the buffer holds 40 characters");
        boundary.run("signOn(0,0) = 1; join(0,0,0) = 1; '+';" + letters(38)
                + "appendCharacter(116) = 40; appendCharacter(109) = -3; appendCharacter(0) = -3;"
                + "appendCharacter(255) = -3; appendCharacter(256) = -1; appendCharacter(-1) = -1;"
                + "applyModes(0,0,0) = 39; modes(0,0) = 33; appendCharacter(43) = 1");
        boundary.run(letters(40) + "appendCharacter(105) = -3; clearText() = 40;" + letters(39)
                + "appendCharacter(105) = 40; appendCharacter(105) = -3");
        // An undo gives no room.
        boundary.run("advance(1) = 1;" + letters(40) + "appendCharacter(105) = -3; undo() = 0;"
                + "appendCharacter(105) = -3; createServers(1) = 0; appendCharacter(105) = -3");
    }

    private static void clearText() {
        boundary.promise(18, "Empties the text buffer");
        boundary.run("signOn(0,0) = 1; join(0,0,0) = 1; '+t'; clearText() = 2;"
                + "applyModes(0,0,0) = -10; appendCharacter(105) = 1; applyModes(0,0,0) = -10;"
                + "clearText() = 1; '+m'; applyModes(0,0,0) = 1; modes(0,0) = 2");
        // It is no edit, whatever was in the buffer.
        boundary.run("clearText() = 0; undo() = -2; '+t'; clearText() = 2; undo() = -2;"
                + letters(40) + "clearText() = 40; undo() = -2; appendCharacter(43) = 1");
        boundary.runUnchanged(WORLD + "clearText() = 0");

        boundary.promise(18, "Returns the length that it had");
        for (int length = 0; length <= 40; length++) {
            boundary.run(letters(length) + "clearText() = " + length + "; clearText() = 0");
        }
        boundary.run(letters(40) + "appendCharacter(105) = -3; clearText() = 40");
    }

    private static void applyModes() {
        boundary.promise(19, "Applies the mode text in the buffer to a channel, by an operator, and"
                + " empties the buffer");
        boundary.run(WORLD + "'+so5'; applyModes(0,0,0) = 2; modes(1,0) = 16;"
                + "operators(1,0) = 33; clearText() = 0; modes(0,3) = 0; operators(0,3) = 1;"
                + "modes(2,0) = 0; operators(2,0) = 128; members(0,0) = 33;"
                + "channelTimestamp(0,0) = 0; applyModes(0,0,0) = -10; undo() = 7;"
                + "modes(0,0) = 0; operators(0,0) = 1; clearText() = 0");
        boundary.run(WORLD + "'-i'; applyModes(0,0,3) = 1; applyModes(0,0,3) = -10;"
                + "appendCharacter(43) = 1");
    }

    private static void applyModesItems() {
        boundary.promise(19, "Returns the number of items");
        // One item in a text of two characters; 39 in one of 40, and 20 with as many signs.
        boundary.run(WORLD + "'+i'; applyModes(0,0,0) = 1; modes(0,0) = 1; '-i';"
                + "applyModes(0,0,0) = 1; modes(0,0) = 0; '+o0'; applyModes(0,0,0) = 1;"
                + "'-o5'; applyModes(0,0,0) = 1; operators(0,0) = 1");
        boundary.run(WORLD + "'+';" + letters(39) + "applyModes(0,0,0) = 39; modes(0,0) = 1;"
                + "clearText() = 0");
        boundary.run(WORLD + "'" + "+t-t".repeat(10) + "'; applyModes(0,0,0) = 20;"
                + "modes(0,0) = 0; '" + "-t+t".repeat(10) + "'; applyModes(0,0,0) = 20;"
                + "modes(0,0) = 32");
        boundary.run(WORLD + "'" + "+o5-o0".repeat(6) + "-o0i'; applyModes(0,0,0) = 14;"
                + "operators(0,0) = 32");
        boundary.run(WORLD + "'+" + "o5".repeat(19) + "t'; applyModes(0,0,0) = 20;"
                + "operators(0,0) = 33; modes(0,0) = 32");
        boundary.run(WORLD + "'-imnpsto5'; applyModes(0,0,0) = 7; modes(0,0) = 0;"
                + "operators(0,0) = 1; undo() = 7");
    }

    private static void applyModesArguments() {
        boundary.promise(19, "`server`: the number of an existing server");
        for (int count = 1; count <= 6; count++) {
            boundary.outside("createServers(" + count + ") = 0; signOn(0,0) = 1; join(0,0,0) = 1;"
                    + "'+i';", "applyModes(?,0,0)", 0, count - 1);
        }
        boundary.run("createServers(6) = 0; signOn(0,4) = 1; signOn(5,4) = 1; join(0,4,0) = 1;"
                + "join(5,4,0) = 1; '+m'; applyModes(6,4,0) = -1; applyModes(-1,4,0) = -1;"
                + "applyModes(5,4,0) = 1; modes(5,0) = 2; modes(0,0) = 0; '+t';"
                + "applyModes(0,4,0) = 1; modes(0,0) = 32");

        boundary.promise(19, "`nick`: 0 to 9, the nick of the operator");
        boundary.run("signOn(0,0) = 1; signOn(0,9) = 2; join(0,9,0) = 1; join(0,0,1) = 1; '+p';"
                + "applyModes(0,-1,1) = -1; applyModes(0,10,0) = -1; applyModes(0,9,0) = 1;"
                + "'+s'; applyModes(0,0,1) = 1; modes(0,0) = 8; modes(0,1) = 16");

        boundary.promise(19, "`channel`: 0 to 3");
        boundary.run(Rows.founder(0) + "'+n'; applyModes(0,0,-1) = -1; applyModes(0,0,4) = -1;"
                + "applyModes(0,0,0) = 1; '+t'; applyModes(0,0,3) = 1; modes(0,0) = 4;"
                + "modes(0,1) = 0; modes(0,2) = 0; modes(0,3) = 32");

        boundary.promise(19, "INVALID_ARGUMENT if there is no such server, or the nick or the"
                + " channel is out of range");
        for (String text : new String[] {"", "'+';", "'+i';", "'+ix';", "'+o5';"}) {
            boundary.outside(WORLD + text, "applyModes(?,0,0)", 0, 2);
            boundary.outside(WORLD + text, "applyModes(0,?,0)", 0, 9);
            boundary.outside(WORLD + text, "applyModes(0,0,?)", 0, 3);
            boundary.outside(WORLD + text, "applyModes(2,7,?)", 0, 3);
        }
        boundary.run("applyModes(1,0,0) = -1; applyModes(0,10,0) = -1; applyModes(0,0,4) = -1;"
                + "applyModes(1,10,4) = -1; applyModes(0,0,0) = -2");
    }

    private static void applyModesRefused() {
        boundary.promise(19, "INVALID_STATE if there is no such user on this server, or if the user"
                + " is not an operator of the channel");
        boundary.run("applyModes(0,0,0) = -2; '+i'; applyModes(0,0,0) = -2; signOn(0,0) = 1;"
                + "applyModes(0,0,0) = -2; join(0,0,0) = 1; applyModes(0,1,0) = -2;"
                + "applyModes(0,0,1) = -2; applyModes(0,0,0) = 1; modes(0,0) = 1");
        // At home next door, a mere member, no member, the operator of another channel or network.
        String refused = "applyModes(1,0,0) = -2; applyModes(0,5,0) = -2; applyModes(1,5,0) = -2;"
                + "applyModes(0,9,0) = -2; applyModes(0,0,1) = -2; applyModes(0,0,2) = -2;"
                + "applyModes(0,7,0) = -2; applyModes(2,0,0) = -2; applyModes(2,7,3) = -2;";
        boundary.run(WORLD + "'+t';" + refused + "applyModes(0,0,0) = 1; modes(1,0) = 32");
        // The state is told of before a text that is in error too, or is empty.
        boundary.run(WORLD + "'+x';" + refused + "applyModes(0,0,0) = -11");
        boundary.run(WORLD + refused + "applyModes(0,0,0) = -10");
        // The operator who is deprived, and the one who comes back.
        boundary.run(WORLD + "'-o0'; applyModes(0,0,0) = 1; '+t'; applyModes(0,0,0) = -2;"
                + "applyModes(0,0,3) = 1; '+t'; undo() = 7; undo() = 6; applyModes(0,0,0) = 1;"
                + "modes(0,0) = 32");
        boundary.run(WORLD + "part(0,0,0) = 1; '+t'; applyModes(0,0,0) = -2; join(0,0,0) = 2;"
                + "applyModes(0,0,0) = -2; undo() = 7; undo() = 6; applyModes(0,0,0) = 1");
    }

    private static void applyModesTextErrors() {
        boundary.promise(19, "-10 minus the error offset if the text is in error (the buffer is"
                + " kept in all these cases)");
        // The error at each place that there is: a space there, the end there, no member there.
        for (int length = 0; length < 40; length++) {
            String good = length == 0 ? "" : length == 1 ? "'+';" : "'+';" + letters(length - 1);
            boundary.run(WORLD + good + "appendCharacter(32) = " + (length + 1)
                    + "; applyModes(0,0,0) = " + (-10 - length) + "; clearText() = "
                    + (length + 1));
        }
        boundary.run(WORLD + "applyModes(0,0,0) = -10; clearText() = 0");
        boundary.run(WORLD + "'+'; applyModes(0,0,0) = -11; clearText() = 1");
        for (int length = 1; length < 39; length++) {
            boundary.run(WORLD + "'+" + "i".repeat(length - 1) + "o'; applyModes(0,0,0) = "
                    + (-10 - length - 1) + "; appendCharacter(57) = " + (length + 2)
                    + "; applyModes(0,0,0) = " + (-10 - length - 1));
        }
        boundary.run(WORLD + "'+" + "i".repeat(38) + "o'; applyModes(0,0,0) = -50;"
                + "appendCharacter(53) = -3; applyModes(0,0,0) = -50; clearText() = 40");
        boundary.run(WORLD + "'+" + "i".repeat(38) + "-'; applyModes(0,0,0) = -50;"
                + "clearText() = 40");
        boundary.run(WORLD + "'+" + "i".repeat(37) + "o9'; applyModes(0,0,0) = -49;"
                + "clearText() = 40");
        boundary.run(WORLD + "'+" + "i".repeat(37) + "o5'; applyModes(0,0,0) = 38;"
                + "operators(0,0) = 33");
    }

    private static void textIsKept() {
        // The same text is applied once what stood against it is gone.
        boundary.run(WORLD + "'+so9'; applyModes(3,0,0) = -1; applyModes(0,5,0) = -2;"
                + "applyModes(0,0,0) = -13; join(0,9,0) = 3; applyModes(0,0,0) = 2;"
                + "modes(0,0) = 16; operators(0,0) = 513; clearText() = 0");
        // Nothing of a text is applied before its error.
        boundary.run(WORLD + "'+imnpsto5-o0+'; applyModes(0,0,0) = -23; modes(0,0) = 0;"
                + "operators(0,0) = 1; appendCharacter(116) = 14; applyModes(0,0,0) = 9;"
                + "modes(0,0) = 63; operators(0,0) = 32");
        // The error is that of the channel: the members differ.
        boundary.run(WORLD + "'+o5'; applyModes(0,0,3) = -12; applyModes(0,0,0) = 1;"
                + "operators(0,0) = 33; operators(0,3) = 1");
    }
}
