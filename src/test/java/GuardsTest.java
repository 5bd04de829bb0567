/** Promises 16 to 22: meetings and passings, and other phases. */
public final class GuardsTest {
    private static final String ROUND = "house 4;door 0 1;door 1 2;door 2 3;door 3 0;";
    // The guards 0 and 1 see both rooms always, so the gaps are the same for all phases.
    private static final String CROSSINGS_DECIDE = "house 2;door 0 1;guard 0;guard 1;guard 0 0 1 1;guard 0 0 1 1;";

    public static void main(String[] args) {
        meetings();
        passings();
        nextMeeting();
        worstWith();
        best();
        bestDecidedByCrossings();
        bestDecidedByNumbers();
        bestFollowsTheWalks();
        Check.end();
    }

    private static void meetings() {
        GuardWalks x = Check.loaded(RoundsTest.HOUSE);
        Check.due("meetings(0, 1)", x.meetings(0, 1), 3);
        Check.due("meetings(1, 0)", x.meetings(1, 0), 3);
        Check.due("meetings(1, 1)", x.meetings(1, 1), 0);
        Check.dueNoSuch("meetings(2, 0)", () -> x.meetings(2, 0));
        Check.dueNoSuch("meetings(0, 2)", () -> x.meetings(0, 2));
        Check.dueNoSuch("meetings(-1, 0)", () -> x.meetings(-1, 0));
        Check.dueNoSuch("meetings(0, -1)", () -> x.meetings(0, -1));
        GuardWalks y = Check.loaded("house 1;guard 0;guard 0;guard 0 0 0;");
        Check.due("minutes of the cycle of all guards", y.meetings(0, 1), 3);
    }

    private static void passings() {
        GuardWalks x = Check.loaded(RoundsTest.HOUSE);
        Check.due("passings(0, 1)", x.passings(0, 1), 1);
        Check.due("passings(1, 0)", x.passings(1, 0), 1);
        Check.due("passings(0, 0)", x.passings(0, 0), 0);
        Check.dueNoSuch("passings(2, 0)", () -> x.passings(2, 0));
        Check.dueNoSuch("passings(0, 2)", () -> x.passings(0, 2));
        Check.dueNoSuch("passings(-1, 0)", () -> x.passings(-1, 0));
        Check.dueNoSuch("passings(0, -1)", () -> x.passings(0, -1));
        GuardWalks y = Check.loaded("house 2;door 0 1;guard 0 1;guard 1 0;guard 0;guard 0;");
        Check.due("passings from the last minute to the first one too", y.passings(0, 1), 2);
        Check.due("two that stay in a room do not pass", y.passings(2, 3), 0);
        Check.due("they meet", y.meetings(2, 3), 2);
        Check.due("one that stays is not passed", y.passings(0, 2), 0);
        Check.due("crossings", y.size(7), 2 + 2 + 1 + 1 + 1 + 1);
    }

    private static void nextMeeting() {
        GuardWalks x = Check.loaded(RoundsTest.HOUSE);
        Check.due("nextMeeting(0, 1, 0)", x.nextMeeting(0, 1, 0), 1);
        Check.due("nextMeeting(0, 1, 1)", x.nextMeeting(0, 1, 1), 1);
        Check.due("nextMeeting(1, 0, 3)", x.nextMeeting(1, 0, 3), 6);
        Check.due("nextMeeting(0, 1, 7)", x.nextMeeting(0, 1, 7), 13);
        // 1000000 is 4 modulo 12
        Check.due("nextMeeting(0, 1, 1000000)", x.nextMeeting(0, 1, 1000000), 1000002);
        Check.due("nextMeeting(0, 0, 0)", x.nextMeeting(0, 0, 0), -1);
        Check.dueNoSuch("nextMeeting(2, 0, -1)", () -> x.nextMeeting(2, 0, -1));
        Check.dueNoSuch("nextMeeting(0, 2, -1)", () -> x.nextMeeting(0, 2, -1));
        Check.dueIllegal("nextMeeting(0, 1, -1)", () -> x.nextMeeting(0, 1, -1));
        Check.dueIllegal("nextMeeting(0, 1, 1000001)", () -> x.nextMeeting(0, 1, 1000001));
        Check.dueIllegal("nextMeeting(0, 0, -1)", () -> x.nextMeeting(0, 0, -1));
        Check.due("guards that never meet", Check.loaded("house 2;guard 0;guard 1;").nextMeeting(0, 1, 0), -1);
    }

    private static void worstWith() {
        GuardWalks x = Check.loaded(ROUND + "guard 0 1 2 3;guard 0 1 2 3 phase 1;");
        int[] due = {3, 2, 1, 2};
        for (int phase = 0; phase < 4; phase++) {
            Check.due("worstWith(1, " + phase + ")", x.worstWith(1, phase), due[phase]);
        }
        Check.due("worstWith(0, 3)", x.worstWith(0, 3), 1);
        Check.due("the phase stays", x.guard(1, 1), 1);
        Check.due("the worst gap stays", x.size(5), 2);
        Check.due("no operation", x.undoCount(), 0);
        Check.dueNoSuch("worstWith(2, -1)", () -> x.worstWith(2, -1));
        Check.dueNoSuch("worstWith(-1, 0)", () -> x.worstWith(-1, 0));
        Check.dueIllegal("worstWith(0, -1)", () -> x.worstWith(0, -1));
        Check.dueIllegal("worstWith(0, 4)", () -> x.worstWith(0, 4));
    }

    private static void dueBest(GuardWalks x, String house, int worst, int crossings, int... phases) {
        Check.due("bestWorst() of " + house, x.bestWorst(), worst);
        Check.due("bestCrossings() of " + house, x.bestCrossings(), crossings);
        for (int guard = 0; guard < phases.length; guard++) {
            Check.due("bestPhase(" + guard + ") of " + house, x.bestPhase(guard), phases[guard]);
        }
    }

    private static void best() {
        GuardWalks x = Check.loaded(ROUND + "guard 0 1 2 3 phase 3;guard 0 1 2 3 phase 3;");
        dueBest(x, "two guards on one round", 1, 0, 0, 2);
        Check.due("the phases stay", x.guard(0, 1), 3);
        Check.due("no operation", x.undoCount(), 0);
        dueBest(new GuardWalks(), "no guards", 0, 0);
        dueBest(Check.loaded(RoundsTest.HOUSE), "periods 4 and 3", 3, 4, 0, 0);
        dueBest(Check.loaded("house 3;door 0 1;door 1 2;guard 0 1 2 1;guard 1 2 1 0;"), "to and fro", 1, 2, 0, 1);
        dueBest(Check.loaded(ROUND + "guard 0 1 2 3;guard 0 1 2 3;guard 0 1 2 3;guard 0 1 2 3;"), "four guards", 0, 0, 0, 1, 2, 3);
        Check.dueNoSuch("bestPhase(2)", () -> x.bestPhase(2));
        Check.dueNoSuch("bestPhase(-1)", () -> x.bestPhase(-1));
        Check.dueNoSuch("bestPhase(0) without guards", () -> new GuardWalks().bestPhase(0));
    }

    private static void bestDecidedByCrossings() {
        // phase 0 of guard 3 has 4 crossings with guard 2, the other ones have 2
        dueBest(Check.loaded(CROSSINGS_DECIDE), "crossings decide", 0, 10, 0, 0, 0, 1);
        // a smaller gap counts more than fewer crossings: together the two guards see room 1 always, but meet none the less
        dueBest(Check.loaded("house 2;door 0 1;guard 0 1;guard 0 1;"), "the gap decides", 0, 2, 0, 1);
    }

    private static void bestDecidedByNumbers() {
        dueBest(Check.loaded("house 2;guard 0 0 0 phase 2;guard 1 1 1 phase 1;"), "all phases alike", 0, 0, 0, 0);
        // the phases 1 and 3 of guard 1 are alike, by the number the first one is better
        dueBest(Check.loaded("house 2;door 0 1;guard 0 0 1 1;guard 0 1 0 1;"), "numbers decide", 1, 3, 0, 0);
    }

    private static void bestFollowsTheWalks() {
        GuardWalks x = Check.loaded(ROUND + "guard 0 1 2 3;guard 0 1 2 3;");
        dueBest(x, "before the change", 1, 0, 0, 2);
        Check.due("change", Check.change(x, "walk 1 2 3 0 1 phase 1"), 4);
        dueBest(x, "after the change", 1, 0, 0, 0);
        x.undo();
        dueBest(x, "after undo", 1, 0, 0, 2);
        x.saveSnapshot();
        Check.change(x, "walk 0 3");
        dueBest(x, "after another change", 3, 1, 0, 0);
        x.restoreSnapshot();
        dueBest(x, "after restoreSnapshot", 1, 0, 0, 2);
        x.shift(0, 3);
        dueBest(x, "after shift", 1, 0, 0, 2);
        Check.load(x, "house 2;guard 1;");
        dueBest(x, "after load", 0, 0, 0);
    }
}
