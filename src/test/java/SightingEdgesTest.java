/** The edges that "Sightings and gaps" names: a method for each sentence. */
public final class SightingEdgesTest {
    public static void main(String[] args) {
        seenByAnyGuard();
        gapRoundTheCycle();
        gapOfARoomNeverSeen();
        firstStretchOnATie();
        noStretch();
        worstGapOfRoomsThatHaveOne();
        noRoomWithAGap();
        lateByGap();
        lateWithoutGap();
        meeting();
        passing();
        passingInDifferentRooms();
        passingBothWays();
        crossingsOfTheWholeCycle();
        crossingsOfEachPair();
        smallerWorstGapFirst();
        fewerCrossingsThen();
        smallerNumberLast();
        bestOfTheWalksAsTheyAre();
        Check.end();
    }

    private static void seenByAnyGuard() {
        Check.sentence("A room is seen at a minute if a guard is in it then");
        GuardWalks x = Check.loaded("house 2;door 0 1;guard 0;guard 0 1;");
        // two guards in a room see it once at this minute
        Check.due("minutes at which room 0 is seen", x.room(0, 3), 2);
        Check.due("minutes at which room 1 is seen", x.room(1, 3), 1);
        Check.due("pass(2)", x.pass(2), 3);
        Check.due("sightings of room 0", x.room(0, 4), 2);
        Check.dueExactly("coverage()", x.coverage(), 3.0 / 4.0);
    }

    private static void gapRoundTheCycle() {
        Check.sentence("the greatest number of successive minutes, going round the cycle, at which it is not seen");
        // room 0 is seen at 1 and 2 of 5 minutes, room 1 at 0, 3 and 4
        GuardWalks x = Check.loaded("house 2;door 0 1;guard 1 0 0 1 1;");
        Check.due("gap of room 0", x.room(0, 1), 2 + 1);
        Check.due("gap of room 1", x.room(1, 1), 2);
        Check.due("gapFrom(0)", x.gapFrom(0), 3);
        Check.due("gapFrom(1)", x.gapFrom(1), 1);
        GuardWalks once = Check.loaded("house 2;door 0 1;guard 0 1 1 1 1 1 1 1 1 1;");
        Check.due("gap of a room seen at minute 0 alone", once.room(0, 1), 9);
        Check.due("it begins at 1", once.gapFrom(0), 1);
        once.shift(0, 1);
        Check.due("gap of a room seen at the last minute alone", once.room(0, 1), 9);
        Check.due("it begins at 0", once.gapFrom(0), 0);
        once.shift(0, 2);
        Check.due("gap of a room seen at the minute before alone", once.room(0, 1), 9);
        Check.due("it begins at the last minute", once.gapFrom(0), 9);
        // the stretch at the end and the one at the beginning are one: 2 + 2 minutes, more than the 3 between
        GuardWalks both = Check.loaded("house 2;door 0 1;guard 1 1 0 1 1 1 0 0 1 1;");
        Check.due("gap of two ends", both.room(0, 1), 4);
        Check.due("gapFrom of two ends", both.gapFrom(0), 8);
    }

    private static void gapOfARoomNeverSeen() {
        Check.sentence("it has none if it is never seen");
        GuardWalks x = Check.loaded("house 3;door 0 1;guard 0 1;");
        Check.due("gap of a room never seen", x.room(2, 1), -1);
        Check.due("gapFrom(2)", x.gapFrom(2), -1);
        Check.due("nextSeen(2, 0)", x.nextSeen(2, 0), -1);
        Check.due("gap without guards", new GuardWalks().room(0, 1), -1);
        // a gap of no minutes is a gap
        Check.due("gap of a room always seen", Check.loaded("house 1;guard 0;").room(0, 1), 0);
    }

    private static void firstStretchOnATie() {
        Check.sentence("the first one on a tie");
        // room 0 is unseen at 1 and at 3
        GuardWalks x = Check.loaded("house 2;door 0 1;guard 0 1 0 1;");
        Check.due("gapFrom(0)", x.gapFrom(0), 1);
        Check.due("gapFrom(1) with a stretch at 0 and one at 2", x.gapFrom(1), 0);
        // room 0 is unseen at 5 and 0, and at 2 and 3: the stretch round the end begins later
        GuardWalks y = Check.loaded("house 2;door 0 1;guard 1 0 1 1 0 1;");
        Check.due("gap of room 0", y.room(0, 1), 2);
        Check.due("gapFrom(0) with a stretch round the end", y.gapFrom(0), 2);
        // room 0 is unseen at 0 and 1, at 3 and 4 and at 6 and 7
        GuardWalks z = Check.loaded("house 2;door 0 1;guard 1 1 0 1 1 0 1 1 0;");
        Check.due("gapFrom(0) of three", z.gapFrom(0), 0);
        z.shift(0, 8);
        Check.due("gapFrom(0) of three, a minute later", z.gapFrom(0), 1);
        z.shift(0, 7);
        Check.due("gapFrom(0) of three, two minutes later", z.gapFrom(0), 2);
    }

    private static void noStretch() {
        Check.sentence("NONE if it has no gap or its gap is 0");
        GuardWalks x = Check.loaded("house 2;guard 0 0 0;");
        Check.due("gapFrom of a gap of 0", x.gapFrom(0), -1);
        Check.due("gapFrom of no gap", x.gapFrom(1), -1);
    }

    private static void worstGapOfRoomsThatHaveOne() {
        Check.sentence("The worst gap is the greatest gap of all rooms that have one");
        Check.due("worst gap at the first room", Check.loaded("house 3;door 0 1;guard 0 1 1;").size(5), 2);
        Check.due("worst gap at the last room", Check.loaded("house 3;door 2 1;guard 2 1 1 1;").size(5), 3);
        Check.due("worst gap between", Check.loaded("house 3;door 0 1;door 1 2;door 2 0;guard 0 1 2 0 2;").size(5), 4);
    }

    private static void noRoomWithAGap() {
        Check.sentence("0 if no room has one");
        GuardWalks x = Check.loaded("house 12;");
        Check.due("worst gap without guards", x.size(5), 0);
        Check.due("bestWorst() without guards", x.bestWorst(), 0);
        Check.due("worst gap of a new object", new GuardWalks().size(5), 0);
        Check.due("worst gap of gaps of 0", Check.loaded("house 2;guard 1;").size(5), 0);
    }

    private static void lateByGap() {
        Check.sentence("A room is late if its gap is greater than its limit");
        // room 0 has a gap of 3 minutes, room 1 of 1 minute
        GuardWalks x = Check.loaded("house 2;door 0 1;limit 0 3;limit 1 1;guard 0 1 1 1;");
        Check.due("a gap that is as great", x.room(0, 2), 0);
        Check.due("late rooms", x.size(6), 0);
        Check.due("setLimit(0, 2)", x.setLimit(0, 2), 1);
        Check.due("a gap that is greater", x.room(0, 2), 1);
        Check.due("a gap of 1 and limit 1", x.room(1, 2), 0);
        Check.due("setLimit(1, 0)", x.setLimit(1, 0), 2);
        Check.due("a gap of 1 and limit 0", x.room(1, 2), 1);
        Check.due("a gap of 0 and limit 0", Check.loaded("house 1;limit 0 0;guard 0;").room(0, 2), 0);
    }

    private static void lateWithoutGap() {
        Check.sentence("or if it has none");
        GuardWalks x = Check.loaded("house 3;limit 1 99;limit 2 0;guard 0;");
        Check.due("late with limit 99", x.room(1, 2), 1);
        Check.due("late with limit 0", x.room(2, 2), 1);
        Check.due("late rooms", x.size(6), 2);
        Check.due("format()", Check.formatted(x), "0a 1! 2!");
    }

    private static void meeting() {
        Check.sentence("Two guards meet at a minute if both are in the same room then");
        // guard 0 is in 0 1 0 1 0 1, guard 1 in 0 0 1 0 0 1
        GuardWalks x = Check.loaded("house 2;door 0 1;guard 0 1;guard 0 0 1;");
        Check.due("meetings(0, 1)", x.meetings(0, 1), 3);
        int[] due = {0, 4, 4, 4, 4, 5, 6, 10};
        for (int minute = 0; minute < due.length; minute++) {
            Check.due("nextMeeting(0, 1, " + minute + ")", x.nextMeeting(0, 1, minute), due[minute]);
        }
    }

    private static void passing() {
        Check.sentence("each of them is in the other one's room one minute later");
        GuardWalks x = Check.loaded("house 2;door 0 1;guard 0 1;guard 0 0 1;");
        Check.due("passings(0, 1) at 1 and 2", x.passings(0, 1), 2);
        // at 2 they are in 1 and 0, at 0 in 0 and 1
        GuardWalks round = Check.loaded("house 2;door 0 1;guard 0 0 1;guard 1 0 0;");
        Check.due("passings(0, 1) from the last minute to the first one", round.passings(0, 1), 1);
        Check.due("meetings(0, 1)", round.meetings(0, 1), 1);
    }

    private static void passingInDifferentRooms() {
        Check.sentence("They pass one another at a minute if they are in different rooms then");
        GuardWalks x = Check.loaded("house 2;door 0 1;guard 0 0 1;guard 0 0 1;");
        Check.due("passings of guards that walk together", x.passings(0, 1), 0);
        Check.due("their meetings", x.meetings(0, 1), 3);
        Check.due("their crossings", x.size(7), 3);
    }

    private static void passingBothWays() {
        Check.sentence("and each of them is in the other one's room one minute later");
        GuardWalks stays = Check.loaded("house 2;door 0 1;guard 0 1;guard 1 1;");
        Check.due("passings where one stays", stays.passings(0, 1), 0);
        GuardWalks follows = Check.loaded("house 3;door 0 1;door 1 2;door 2 0;guard 0 1 2;guard 1 2 0;");
        Check.due("passings where one follows the other", follows.passings(0, 1), 0);
        Check.due("passings where one is followed", follows.passings(1, 0), 0);
        Check.due("crossings", follows.size(7), 0);
        GuardWalks against = Check.loaded("house 3;door 0 1;door 1 2;door 2 0;guard 0 1 2;guard 1 0 2;");
        // at 0 they are in 0 and 1, at 1 in 1 and 0, at 2 both in 2
        Check.due("passings where one comes against the other", against.passings(0, 1), 1);
        Check.due("their meetings", against.meetings(1, 0), 1);
    }

    private static void crossingsOfTheWholeCycle() {
        Check.sentence("The crossings are the minutes from 0 to the cycle less 1");
        Check.due("crossings at minute 0 alone", Check.loaded("house 2;door 0 1;guard 0 1 1;guard 0 0 0;").size(7), 1);
        Check.due("crossings at the last minute alone", Check.loaded("house 2;door 0 1;guard 1 1 0;guard 0 0 0;").size(7), 1);
        Check.due("the passing behind the last minute",
            Check.loaded("house 3;door 0 1;door 1 2;door 2 0;guard 1 2 0;guard 0 2 1;").size(7), 2);
    }

    private static void crossingsOfEachPair() {
        Check.sentence("counted once for each pair of guards");
        String guard = "guard 0 0 0;";
        int[] due = {0, 0, 3, 9, 18};
        for (int guards = 0; guards <= 4; guards++) {
            Check.due("crossings of " + guards + " guards", Check.loaded("house 1;" + guard.repeat(guards)).size(7), due[guards]);
        }
    }

    private static void dueBest(String text, int worst, int crossings, int... phases) {
        GuardWalks x = Check.loaded(text);
        Check.due("bestWorst() of " + text, x.bestWorst(), worst);
        Check.due("bestCrossings() of " + text, x.bestCrossings(), crossings);
        for (int guard = 0; guard < phases.length; guard++) {
            Check.due("bestPhase(" + guard + ") of " + text, x.bestPhase(guard), phases[guard]);
        }
        x.adopt();
        Check.due("the worst gap then", x.size(5), worst);
        Check.due("the crossings then", x.size(7), crossings);
    }

    private static void smallerWorstGapFirst() {
        Check.sentence("Phases are better than others if they have a smaller worst gap");
        // guard 1's phases 1 and 3 have 2 crossings, but a gap of 3; its phase 2 has 3 and a gap of 2
        GuardWalks x = Check.loaded("house 3;door 0 1;door 1 2;guard 0 1 2 1 1;guard 1 1 2 1 0 phase 1;");
        Check.due("crossings with phase 1", x.size(7), 2);
        Check.due("worst gap with phase 1", x.size(5), 3);
        dueBest("house 3;door 0 1;door 1 2;guard 0 1 2 1 1;guard 1 1 2 1 0 phase 1;", 2, 3, 0, 2);
    }

    private static void fewerCrossingsThen() {
        Check.sentence("if this is the same, if they have fewer crossings");
        // the guards 0 and 1 see both rooms always: gaps are 0 for all phases
        // guard 3 beside guard 2: phase 0 meets it at all 4 minutes, phase 1 or 3 at 2, phase 2 passes it at 2
        dueBest("house 2;door 0 1;guard 0;guard 1;guard 0 0 1 1;guard 0 0 1 1 phase 3;", 0, 10, 0, 0, 0, 1);
        // never in one room, but they pass one another; with phase 1 they don't
        dueBest("house 2;door 0 1;guard 0;guard 1;guard 0 1;guard 1 0;", 0, 6, 0, 0, 0, 0);
    }

    private static void smallerNumberLast() {
        Check.sentence("if these are the same too, if they have the smaller number at the first guard with different phases");
        String round = "house 4;door 0 1;door 1 2;door 2 3;door 3 0;";
        // the guards are best two rooms apart: 0 and 2, 1 and 3, 2 and 0, 3 and 1
        dueBest(round + "guard 0 1 2 3 phase 3;guard 0 1 2 3 phase 1;", 1, 0, 0, 2);
        // the phases 1, 2 and 3 of guard 3 are alike
        dueBest("house 2;door 0 1;guard 0;guard 1;guard 0 0 1 1;guard 0 0 1 1 phase 3;", 0, 10, 0, 0, 0, 1);
        dueBest("house 1;guard 0 0 0 phase 2;guard 0 0 phase 1;", 0, 6, 0, 0);
        dueBest(round + "guard 0 1 2 3;guard 0 1 2 3;guard 0 1 2 3;", 1, 0, 0, 1, 2);
        dueBest(round + "guard 0 1 2 3;guard 0 1 2 3;guard 0 1 2 3;guard 0 1 2 3;", 0, 0, 0, 1, 2, 3);
        // in 20 minutes guard 1 is in each room as often: 15 times it meets one of the others
        dueBest(round + "guard 0 1 2 3;guard 2 2 3 0 1;guard 0 1 2 3;guard 0 1 2 3;", 1, 15, 0, 0, 1, 2);
    }

    private static void bestOfTheWalksAsTheyAre() {
        Check.sentence("The best phases are better than all others (walks and doors as they are)");
        GuardWalks x = Check.loaded("house 4;door 0 1;door 1 2;door 2 3;door 3 0;guard 0 1 2 3 phase 3;guard 0 1 2 3 phase 3;");
        String before = Check.state(x);
        Check.due("bestWorst()", x.bestWorst(), 1);
        Check.due("bestPhase(1)", x.bestPhase(1), 2);
        Check.due("state after asking", Check.state(x), before);
        Check.change(x, "walk 1 1 2 3 0");
        Check.due("bestPhase(1) of another walk", x.bestPhase(1), 1);
        x.undo();
        Check.due("bestPhase(1) of the walk before", x.bestPhase(1), 2);
    }
}
