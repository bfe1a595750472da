/** The boundary cases of the "Description", sentence by sentence, and how long an object is used. */
public final class BoundaryDescriptionTest {
    private static Boundary boundary;

    public static void main(String[] args) throws Exception {
        boundary = new Boundary("BoundaryDescriptionTest");
        calls();
        constants();
        new DescriptionOfNetworks(boundary).check();
        new DescriptionOfMerges(boundary).check();
        new DescriptionOfTexts(boundary).check();
        new DescriptionOfCalls(boundary).check();
        notPromised();
        boundary.allNamed("What it is");
        boundary.allNamed("The public face");
        boundary.allNamed("Description");
        boundary.allNamed("Not promised");
        boundary.end();
    }

    private static void calls() {
        boundary.noBoundary("What it is", "A simulator of a relay chat network: servers that are"
                + " linked to a forest, network splits and rejoins, nick collisions that are"
                + " settled by timestamps, channels that merge by age, channel modes and operators,"
                + " and forecasts of what a new link would do");

        boundary.under("What it is", "An object is used for at most 512 calls after it has been"
                + " made; what later calls answer is free");
        boundary.run("time() = 0;".repeat(511) + "advance(1) = 1");
        StringBuilder ticks = new StringBuilder();
        for (int k = 1; k <= 503; k++) {
            ticks.append("advance(1) = " + k + ";");
        }
        for (int left = 7; left >= 0; left--) {
            ticks.append("undo() = " + left + ";");
        }
        boundary.run(ticks + "time() = 495");
        boundary.run("signOn(0,0) = 1; join(0,0,0) = 1;"
                + "appendCharacter(43) = 1; appendCharacter(105) = 2; applyModes(0,0,0) = 1;"
                .repeat(170));
        // The dearest questions, with all users that there can be.
        StringBuilder full = new StringBuilder("createServers(6) = 0;");
        for (int server = 0; server < 6; server++) {
            full.append(Rows.crowd(server) + "advance(1) = " + (server + 1) + ";");
        }
        boundary.run(full + "fewestKills() = 50;".repeat(444) + "bestFirstLink() = 1");
    }

    private static void constants() {
        boundary.noBoundary("Description", "The constants:");
        boundary.description("`INVALID_ARGUMENT = -1`: An argument is out of its range");
        boundary.due("INVALID_ARGUMENT", RelayNetwork.INVALID_ARGUMENT, -1, "the constants");
        boundary.run("signOn(0,9) = 1; signOn(0,10) = -1");
        boundary.description("`INVALID_STATE = -2`: The call is not possible in the present state");
        boundary.due("INVALID_STATE", RelayNetwork.INVALID_STATE, -2, "the constants");
        boundary.run("signOff(0,9) = -2; signOn(0,9) = 1; signOff(0,9) = 0");
        boundary.description("`LIMIT_REACHED = -3`: A capacity is exhausted");
        boundary.due("LIMIT_REACHED", RelayNetwork.LIMIT_REACHED, -3, "the constants");
        boundary.run(Rows.clock(0, 9998) + "advance(2) = -3; advance(1) = 9999");
        boundary.description("`NONE = -9`: There is no such value");
        boundary.due("NONE", RelayNetwork.NONE, -9, "the constants");
        boundary.run("homeServer(0,9) = -9; signOn(0,9) = 1; homeServer(0,9) = 0");
        boundary.noBoundary("Description", "The constructor and the methods follow, a promise each:"
                + " the signature, then what it does");
    }

    /** What is free has no bound, but nothing of it may reach the answers. */
    private static void notPromised() {
        boundary.noBoundary("Not promised", "How the state is held inside the object is free, as"
                + " are the speed of each call, the text of toString and the behaviour of equals"
                + " and hashCode");
        boundary.noBoundary("Not promised", "Use of one object from several threads at once is not"
                + " promised to be safe");
        boundary.under("Not promised", "Nothing is promised beyond the answers and state changes"
                + " described above, and nothing about an object after its 512th call");
        // The 512th call is still promised, whichever it is.
        String before = "createServers(2) = 0; signOn(0,1) = 1; join(0,1,0) = 1; advance(1) = 1;"
                + "signOn(1,1) = 1; '+i';" + "time() = 1;".repeat(504);
        for (String last : new String[] {"createServers(6) = 2", "connect(0,1) = 1",
            "advance(999) = 1000", "hops(0,1) = -9", "changeNick(0,1,2) = 0", "part(0,1,0) = 0",
            "appendCharacter(116) = 3", "clearText() = 2", "applyModes(0,1,0) = 1",
            "burstSize(0,1) = 5", "fewestKills() = 1", "bestFirstLink() = 1", "undo() = 4"}) {
            boundary.run(before + last);
        }
    }
}
