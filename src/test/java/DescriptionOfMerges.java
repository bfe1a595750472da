/** How two networks merge, in the "Description". */
final class DescriptionOfMerges {
    private static final String[] BOTH_WAYS = {"connect(0,1)", "connect(1,0)"};
    private final Boundary boundary;

    DescriptionOfMerges(Boundary boundary) {
        this.boundary = boundary;
    }

    void check() {
        nicks();
        kills();
        channelsAfterKills();
        oneChannel();
        sameTimestamp();
        differentTimestamps();
    }

    private void nicks() {
        boundary.description("When two networks are linked, they merge as follows");
        boundary.run("createServers(2) = 0; connect(0,1) = 0; hops(0,1) = 1; bestFirstLink() = -9");

        boundary.description("Step 1 (nicks): for each nick that is used in both networks, the two"
                + " users collide");
        for (int nick = 0; nick < 10; nick++) {
            boundary.run("createServers(2) = 0;" + Rows.crowd(0) + "signOn(1," + nick + ") = 1;"
                    + "connect(0,1) = 2; visibleUsers(1) = " + (1023 - (1 << nick)));
        }
        boundary.run("createServers(2) = 0;" + Rows.crowd(0) + "connect(0,1) = 0;"
                + "visibleUsers(1) = 1023");
        // The homes may be at the far ends of the two networks.
        boundary.run(Rows.chain(6) + "disconnect(2,3) = 3; signOn(0,9) = 1; signOn(5,9) = 1;"
                + "signOn(0,0) = 2; signOn(5,1) = 2; connect(2,3) = 2; visibleUsers(0) = 3");

        boundary.description("The user with the smaller timestamp stays, and the other one is"
                + " killed");
        int[][] times = {{0, 1}, {0, 9999}, {9998, 9999}, {254, 255}, {255, 256}};
        for (int[] pair : times) {
            for (int older = 0; older < 2; older++) {
                for (String connect : BOTH_WAYS) {
                    boundary.run("createServers(2) = 0;" + Rows.clock(0, pair[0]) + "signOn("
                            + older + ",9) = 1;" + Rows.clock(pair[0], pair[1]) + "signOn("
                            + (1 - older) + ",9) = 1; " + connect + " = 1; homeServer(0,9) = "
                            + older + "; userTimestamp(1,9) = " + pair[0] + "; signOff("
                            + (1 - older) + ",9) = -2");
                }
            }
        }
    }

    private void kills() {
        boundary.description("If the timestamps are equal, both are killed");
        for (int time : new int[] {0, 1, 9999}) {
            for (String connect : BOTH_WAYS) {
                boundary.run("createServers(2) = 0;" + Rows.clock(0, time) + "signOn(0,0) = 1;"
                        + "signOn(1,0) = 1; " + connect + " = 2; visibleUsers(0) = 0;"
                        + "homeServer(1,0) = -9; signOn(1,0) = 1");
            }
        }
        // A new nick takes the time of the clock, so that equal timestamps can come later.
        boundary.run("createServers(2) = 0; signOn(0,0) = 1; advance(1) = 1; signOn(1,1) = 1;"
                + "changeNick(0,0,1) = 0; connect(0,1) = 2; visibleUsers(0) = 0");

        boundary.description("A killed user leaves the network");
        boundary.run("createServers(2) = 0; signOn(0,9) = 1; advance(1) = 1; signOn(1,9) = 1;"
                + "signOn(1,8) = 2; join(1,9,3) = 1; join(1,8,3) = 2; connect(0,1) = 1;"
                + "signOff(1,9) = -2; part(0,9,3) = -2; members(0,3) = 256; operators(0,3) = 0;"
                + "visibleUsers(0) = 768; disconnect(0,1) = 1; visibleUsers(1) = 256;"
                + "undo() = 7; undo() = 6; homeServer(1,9) = 1; members(1,3) = 768;"
                + "operators(1,3) = 512");
    }

    private void channelsAfterKills() {
        boundary.description("Step 2 (channels): for each channel name, the channels that exist in"
                + " the two networks after step 1 are merged");
        // The older channel dies with its only member, so the younger one stays as it is.
        String begin = "createServers(2) = 0; signOn(0,0) = 1; signOn(1,1) = 1; join(0,0,3) = 1;"
                + "'+imn'; applyModes(0,0,3) = 3; advance(1) = 1; join(1,1,3) = 1; '+t';"
                + "applyModes(1,1,3) = 1;";
        String younger = "members(0,3) = 2; operators(0,3) = 2; modes(0,3) = 32; modes(1,3) = 32;"
                + "channelTimestamp(0,3) = 1; lastDeprived() = 0; lastDropped() = 0";
        boundary.run(begin + "signOn(1,0) = 2; connect(0,1) = 1; members(0,3) = 3;"
                + "operators(0,3) = 1; lastDeprived() = 1; lastDropped() = 1");
        boundary.run(begin + "changeNick(0,0,5) = 0; signOn(1,5) = 2; connect(0,1) = 2;" + younger);
        boundary.run(begin + "signOn(1,5) = 2; advance(1) = 2; changeNick(0,0,5) = 0;"
                + "connect(1,0) = 1;" + younger);
        // With another member left it is there after step 1, and wins.
        boundary.run(begin + "signOn(0,2) = 2; join(0,2,3) = 2; changeNick(0,0,5) = 0;"
                + "signOn(1,5) = 2; connect(0,1) = 2; members(1,3) = 6; operators(1,3) = 0;"
                + "modes(1,3) = 7; channelTimestamp(1,3) = 0; lastDeprived() = 1;"
                + "lastDropped() = 1");
        // Both die, and nothing of them is left.
        boundary.run("createServers(2) = 0; signOn(0,0) = 1; signOn(1,0) = 1; join(0,0,3) = 1;"
                + "advance(1) = 1; join(1,0,3) = 1; '+t'; applyModes(1,0,3) = 1; connect(0,1) = 2;"
                + "members(0,3) = 0; modes(1,3) = -9; lastDeprived() = 0; lastDropped() = 0;"
                + "signOn(1,0) = 1; join(1,0,3) = 1; modes(0,3) = 0; channelTimestamp(0,3) = 1");
        for (int channel = 0; channel < 4; channel++) {
            boundary.run("createServers(2) = 0; signOn(0,0) = 1; signOn(1,1) = 1; join(0,0,"
                    + channel + ") = 1; join(1,1," + channel + ") = 1; connect(0,1) = 0;"
                    + "members(0," + channel + ") = 3; operators(1," + channel + ") = 3");
        }
    }

    private void oneChannel() {
        boundary.description("If a channel exists in only one of them, it stays as it is");
        for (int there = 0; there < 2; there++) {
            for (String connect : BOTH_WAYS) {
                boundary.run("createServers(2) = 0; signOn(0,0) = 1; signOn(1,1) = 1; advance(7) = 7;"
                        + "join(" + there + "," + there + ",3) = 1; '+mt'; applyModes(" + there
                        + "," + there + ",3) = 2; " + connect + " = 0; members(0,3) = "
                        + (1 << there) + "; operators(1,3) = " + (1 << there) + "; modes(0,3) = 34;"
                        + "modes(1,3) = 34; channelTimestamp(0,3) = 7; channelTimestamp(1,3) = 7;"
                        + "lastDeprived() = 0; lastDropped() = 0; members(0,0) = 0");
            }
        }
        // Without an operator it stays without one.
        boundary.run("createServers(2) = 0; signOn(0,0) = 1; join(0,0,0) = 1; '-o0';"
                + "applyModes(0,0,0) = 1; connect(0,1) = 0; operators(1,0) = 0; members(1,0) = 1");
    }

    private void sameTimestamp() {
        boundary.description("If it exists in both with the same timestamp, the merged channel has"
                + " this timestamp, the modes of both, all members of both, and all operators of"
                + " both");
        for (int time : new int[] {0, 9999}) {
            for (String connect : BOTH_WAYS) {
                boundary.run("createServers(2) = 0;" + Rows.clock(0, time) + "signOn(0,0) = 1;"
                        + "signOn(0,1) = 2; signOn(1,8) = 1; signOn(1,9) = 2; join(0,0,3) = 1;"
                        + "join(0,1,3) = 2; join(1,9,3) = 1; join(1,8,3) = 2; '+im';"
                        + "applyModes(0,0,3) = 2; '+mt'; applyModes(1,9,3) = 2; " + connect
                        + " = 0; channelTimestamp(0,3) = " + time + "; channelTimestamp(1,3) = "
                        + time + "; modes(0,3) = 35; modes(1,3) = 35; members(0,3) = 771;"
                        + "operators(0,3) = 513; lastDeprived() = 0; lastDropped() = 0");
            }
        }
        // All ten nicks, all of them operators, all modes.
        StringBuilder rows = new StringBuilder("createServers(2) = 0;");
        for (int nick = 0; nick < 5; nick++) {
            rows.append("signOn(0," + nick + ") = " + (nick + 1) + ";");
            rows.append("signOn(1," + (nick + 5) + ") = " + (nick + 1) + ";");
        }
        boundary.run(rows + Rows.joins(0, 0, 4, 0) + Rows.joins(1, 5, 9, 0) + "'+imno1o2o3o4';"
                + "applyModes(0,0,0) = 7; '+psto6o7o8o9'; applyModes(1,5,0) = 7; connect(0,1) = 0;"
                + "members(0,0) = 1023; operators(1,0) = 1023; modes(1,0) = 63");
    }

    private void differentTimestamps() {
        boundary.description("If the timestamps differ, the merged channel has the smaller"
                + " timestamp, the modes and operators of the channel with the smaller timestamp,"
                + " and all members of both; the operators of the other channel are deprived, and"
                + " its modes are dropped (a dropped mode may still be set by the older channel)");
        int[][] times = {{0, 1}, {0, 9999}, {9998, 9999}};
        for (int[] pair : times) {
            for (int older = 0; older < 2; older++) {
                for (String connect : BOTH_WAYS) {
                    oneIsOlder(pair, older, connect);
                }
            }
        }
        // The other channel has neither operator nor mode: nothing is deprived or dropped.
        boundary.run("createServers(2) = 0; signOn(0,0) = 1; signOn(1,1) = 1; join(0,0,0) = 1;"
                + "advance(1) = 1; join(1,1,0) = 1; '-o1'; applyModes(1,1,0) = 1;"
                + "connect(0,1) = 0; lastDeprived() = 0; lastDropped() = 0; members(1,0) = 3;"
                + "operators(1,0) = 1");
        // Neither has the older one.
        boundary.run("createServers(2) = 0; signOn(0,0) = 1; signOn(1,1) = 1; join(0,0,0) = 1;"
                + "'-o0'; applyModes(0,0,0) = 1; advance(1) = 1; join(1,1,0) = 1; '+imnpst';"
                + "applyModes(1,1,0) = 6; connect(0,1) = 0; lastDeprived() = 1;"
                + "lastDropped() = 6; members(1,0) = 3; operators(1,0) = 0; modes(1,0) = 0");
    }

    private void oneIsOlder(int[] pair, int older, String connect) {
        int younger = 1 - older;
        boundary.run("createServers(2) = 0; signOn(0,0) = 1; signOn(1,1) = 1;"
                + Rows.clock(0, pair[0]) + "join(" + older + "," + older + ",3) = 1; '+in';"
                + "applyModes(" + older + "," + older + ",3) = 2;" + Rows.clock(pair[0], pair[1])
                + "join(" + younger + "," + younger + ",3) = 1; '+nst'; applyModes(" + younger + ","
                + younger + ",3) = 3; " + connect + " = 0; channelTimestamp(0,3) = " + pair[0]
                + "; channelTimestamp(1,3) = " + pair[0] + "; modes(0,3) = 5; modes(1,3) = 5;"
                + "operators(0,3) = " + (1 << older) + "; members(1,3) = 3; lastDeprived() = 1;"
                + "lastDropped() = 3; kick(" + younger + "," + younger + ",3," + older
                + ") = -2; kick(" + older + "," + older + ",3," + younger + ") = 1");
    }
}
