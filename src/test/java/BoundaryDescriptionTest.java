/** The boundary cases of the "Description", sentence by sentence, and how long an object is used. */
public final class BoundaryDescriptionTest {
    private static Boundary boundary;

    public static void main(String[] args) throws Exception {
        boundary = new Boundary("BoundaryDescriptionTest");
        calls();
        constants();
        new DescriptionOfNetworks(boundary).check();
        new DescriptionOfMerges(boundary).check();
        new DescriptionOfTexts(boundary).check();
        new DescriptionOfCalls(boundary).check();
        boundary.allNamed("What it is");
        boundary.allNamed("Description");
        boundary.end();
    }

    private static void calls() {
        boundary.noBoundary("What it is", "A simulator of a relay chat network: servers that are"
                + " linked to a forest, network splits and rejoins, nick collisions that are"
                + " settled by timestamps, channels that merge by age, channel modes and operators,"
                + " and forecasts of what a new link would do");

        boundary.under("What it is", "An object is used for at most 512 calls after it has been"
                + " made; what later calls answer is free");
        boundary.run("time() = 0;".repeat(511) + "advance(1) = 1");
        StringBuilder ticks = new StringBuilder();
        for (int k = 1; k <= 503; k++) {
            ticks.append("advance(1) = " + k + ";");
        }
        for (int left = 7; left >= 0; left--) {
            ticks.append("undo() = " + left + ";");
        }
        boundary.run(ticks + "time() = 495");
        boundary.run("signOn(0,0) = 1; join(0,0,0) = 1;"
                + "appendCharacter(43) = 1; appendCharacter(105) = 2; applyModes(0,0,0) = 1;"
                .repeat(170));
        // The dearest questions, with all users that there can be.
        StringBuilder full = new StringBuilder("createServers(6) = 0;");
        for (int server = 0; server < 6; server++) {
            full.append(Rows.crowd(server) + "advance(1) = " + (server + 1) + ";");
        }
        boundary.run(full + "fewestKills() = 50;".repeat(444) + "bestFirstLink() = 1");
    }

    private static void constants() {
        boundary.noBoundary("Description", "The constants:");
        boundary.description("`INVALID_ARGUMENT = -1`: An argument is out of its range");
        boundary.due("INVALID_ARGUMENT", RelayNetwork.INVALID_ARGUMENT, -1, "the constants");
        boundary.run("signOn(0,9) = 1; signOn(0,10) = -1");
        boundary.description("`INVALID_STATE = -2`: The call is not possible in the present state");
        boundary.due("INVALID_STATE", RelayNetwork.INVALID_STATE, -2, "the constants");
        boundary.run("signOff(0,9) = -2; signOn(0,9) = 1; signOff(0,9) = 0");
        boundary.description("`LIMIT_REACHED = -3`: A capacity is exhausted");
        boundary.due("LIMIT_REACHED", RelayNetwork.LIMIT_REACHED, -3, "the constants");
        boundary.run(Rows.clock(0, 9998) + "advance(2) = -3; advance(1) = 9999");
        boundary.description("`NONE = -9`: There is no such value");
        boundary.due("NONE", RelayNetwork.NONE, -9, "the constants");
        boundary.run("homeServer(0,9) = -9; signOn(0,9) = 1; homeServer(0,9) = 0");
        boundary.noBoundary("Description", "The constructor and the methods follow, a promise each:"
                + " the signature, then what it does");
    }
}
