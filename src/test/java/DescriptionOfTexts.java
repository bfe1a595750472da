/** The text of applyModes in the "Description". */
final class DescriptionOfTexts {
    /** Channel 0 has the members 0 and 9, and 0 is its operator; 5 is in channel 1 alone. */
    private static final String WORLD = "signOn(0,0) = 1; signOn(0,9) = 2; signOn(0,5) = 3;"
            + "join(0,0,0) = 1; join(0,9,0) = 2; join(0,5,1) = 1;";
    private final Boundary boundary;

    DescriptionOfTexts(Boundary boundary) {
        this.boundary = boundary;
    }

    void check() {
        buffer();
        groups();
        items();
        spaces();
        settingAndClearing();
        errorOffsets();
        endOfText();
        order();
    }

    private void good(String text, int items, String after) {
        boundary.run(WORLD + "'" + text + "'; applyModes(0,0,0) = " + items + "; clearText() = 0;"
                + after);
    }

    private void bad(String text, int offset) {
        boundary.run(WORLD + (text.isEmpty() ? "" : "'" + text + "';") + "applyModes(0,0,0) = "
                + (-10 - offset) + "; clearText() = " + text.length());
    }

    private void buffer() {
        boundary.description("applyModes() reads a text from a buffer of at most 40 characters");
        boundary.run(WORLD + "'+" + "i".repeat(38) + "'; appendCharacter(116) = 40;"
                + "appendCharacter(109) = -3; applyModes(0,0,0) = 39; modes(0,0) = 33");
        boundary.run(WORLD + "'+" + "i".repeat(37) + "o'; appendCharacter(57) = 40;"
                + "appendCharacter(105) = -3; applyModes(0,0,0) = 38; operators(0,0) = 513");
    }

    private void groups() {
        boundary.noBoundary("Description", "The grammar of the text is:");

        boundary.description("text = group { group }");
        bad("", 0);
        good("+i", 1, "modes(0,0) = 1");
        good("+i-m", 2, "modes(0,0) = 1");
        good("+t-t".repeat(10), 20, "modes(0,0) = 0");
        bad("i", 0);
        bad("+i+", 3);

        boundary.description("group = ( \"+\" | \"-\" ) item { item }");
        good("-t", 1, "modes(0,0) = 0");
        good("+" + "t".repeat(39), 39, "modes(0,0) = 32");
        bad("+", 1);
        bad("-", 1);
        bad("++i", 1);
        bad("+-i", 1);
        bad("-+i", 1);
        bad("--i", 1);
        bad("+i--t", 3);
        everyCharacterAtTheBegin();
    }

    private void everyCharacterAtTheBegin() {
        for (int code = 0; code < 256; code++) {
            boolean sign = code == '+' || code == '-';
            boundary.run(WORLD + "appendCharacter(" + code + ") = 1; applyModes(0,0,0) = "
                    + (sign ? -11 : -10));
        }
    }

    private void items() {
        boundary.description("item = \"i\" | \"m\" | \"n\" | \"p\" | \"s\" | \"t\" | ( \"o\" digit )");
        for (int code = 0; code < 256; code++) {
            boolean letter = "imnpst".indexOf(code) >= 0;
            boolean sign = code == '+' || code == '-';
            boundary.run(WORLD + "'+'; appendCharacter(" + code + ") = 2; applyModes(0,0,0) = "
                    + (letter ? 1 : code == 'o' ? -12 : -11));
            boundary.run(WORLD + "'-t'; appendCharacter(" + code + ") = 3; applyModes(0,0,0) = "
                    + (letter ? 2 : sign || code == 'o' ? -13 : -12));
            boundary.run(WORLD + "'+o'; appendCharacter(" + code + ") = 3; applyModes(0,0,0) = "
                    + (code == '0' || code == '9' ? 1 : -12));
            boundary.run(WORLD + "'+o9'; appendCharacter(" + code + ") = 4; applyModes(0,0,0) = "
                    + (letter ? 2 : sign || code == 'o' ? -14 : -13));
        }
    }

    private void spaces() {
        boundary.description("There are no spaces");
        String text = "+io9-t";
        for (int offset = 0; offset <= text.length(); offset++) {
            bad(text.substring(0, offset) + " " + text.substring(offset), offset);
        }
        good(text, 3, "modes(0,0) = 1; operators(0,0) = 513");
        bad(" ", 0);
    }

    private void settingAndClearing() {
        boundary.description("After \"+\" a mode letter sets the mode, after \"-\" it clears it");
        good("+imnpst", 6, "modes(0,0) = 63; '-imnpst'; applyModes(0,0,0) = 6; modes(0,0) = 0");
        good("+i-m+n-p+s-t", 6, "modes(0,0) = 21; '-i+m-n+p-s+t'; applyModes(0,0,0) = 6;"
                + "modes(0,0) = 42");

        boundary.description("\"o\" followed by the digit of a nick makes a member of the channel"
                + " an operator (+) or deprives them of it (-)");
        for (int nick = 1; nick < 10; nick++) {
            boundary.run(Rows.crowd(0) + Rows.joins(0, 0, 9, 3) + "'+o" + nick
                    + "'; applyModes(0,0,3) = 1; operators(0,3) = " + (1 + (1 << nick))
                    + "; '-o0'; applyModes(0," + nick + ",3) = 1; operators(0,3) = " + (1 << nick)
                    + "; '+o0-o" + nick + "'; applyModes(0," + nick
                    + ",3) = 2; operators(0,3) = 1; members(0,3) = 1023");
        }

        boundary.description("Items that change nothing are allowed");
        good("-imnpst", 6, "modes(0,0) = 0; undo() = 6");
        good("+o0", 1, "operators(0,0) = 1; undo() = 6");
        good("-o9", 1, "operators(0,0) = 1");
        good("+ii-mm", 4, "modes(0,0) = 1");
        good("+o9o9-o9o9", 4, "operators(0,0) = 1");
    }

    private void errorOffsets() {
        boundary.description("The error offset of a text is the 0-based offset of the first"
                + " character that is not allowed where it stands; the digit of a nick that is not"
                + " a member of the channel is not allowed");
        bad("x", 0);
        bad("0", 0);
        bad("o9", 0);
        bad("+x", 1);
        bad("+9", 1);
        bad("+xx", 1);
        bad("+ixmy", 2);
        bad("+i" + "i".repeat(37) + "x", 39);
        bad("x" + "i".repeat(39), 0);
        // Nick 5 is in another channel, 4 is nowhere; 0 and 9 are the first and the last digit.
        for (int nick = 0; nick < 10; nick++) {
            if (nick == 0 || nick == 9) {
                good("+o" + nick, 1, "");
                bad("-io" + nick + "o4", 5);
            } else {
                bad("+o" + nick, 2);
                bad("-io" + nick, 3);
            }
        }
        bad("+o/", 2);
        bad("+o:", 2);
        bad("+o9o5x", 4);
        // A member who has left is none, one who has come is; the same of another network.
        boundary.run(WORLD + "'+o9'; part(0,9,0) = 1; applyModes(0,0,0) = -12; join(0,9,0) = 2;"
                + "applyModes(0,0,0) = 1; operators(0,0) = 513");
        boundary.run("createServers(2) = 0; signOn(0,0) = 1; signOn(1,9) = 1; join(0,0,0) = 1;"
                + "join(1,9,0) = 1; '-o9'; applyModes(0,0,0) = -12; connect(0,1) = 0;"
                + "applyModes(0,0,0) = 1; operators(0,0) = 1");
        boundary.run(WORLD + "changeNick(0,9,8) = 0; '+o9'; applyModes(0,0,0) = -12;"
                + "clearText() = 3; '+o8'; applyModes(0,0,0) = 1");
    }

    private void endOfText() {
        boundary.description("If all characters are allowed but the text ends where more is needed,"
                + " the error offset is its length");
        bad("", 0);
        bad("+", 1);
        bad("+o", 2);
        bad("+i-", 3);
        bad("+o9-", 4);
        bad("+o9o", 4);
        bad("+" + "i".repeat(38) + "-", 40);
        bad("+" + "i".repeat(38) + "o", 40);
        bad("+" + "i".repeat(37) + "o", 39);
        good("+" + "i".repeat(39), 39, "");
    }

    private void order() {
        boundary.description("The items are applied from left to right");
        good("+i-i", 2, "modes(0,0) = 0");
        good("-i+i", 2, "modes(0,0) = 1");
        good("+o9-o9", 2, "operators(0,0) = 1");
        good("-o9+o9", 2, "operators(0,0) = 513");
        good("-t+t".repeat(10), 20, "modes(0,0) = 32");

        boundary.description("A user may deprive themselves; the following items are applied"
                + " nevertheless");
        good("-o0", 1, "operators(0,0) = 0; members(0,0) = 513; applyModes(0,0,0) = -2");
        good("-o0+io9t", 4, "operators(0,0) = 512; modes(0,0) = 33; applyModes(0,0,0) = -2");
        good("-o0+o0", 2, "operators(0,0) = 1; applyModes(0,0,0) = -10");
        good("-o0" + "+t".repeat(18), 19, "operators(0,0) = 0; modes(0,0) = 32");
    }
}
