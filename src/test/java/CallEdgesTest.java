/** The edges that the promises 5 to 22 name: numbers that a call does not take, and answers where there is nothing. */
public final class CallEdgesTest {
    private static final String HOUSE = "house 3;door 0 1;door 1 2 closed;limit 1 0;guard 0 1 1;guard 0;";
    private static final int[] FAR = {20, 600, Integer.MIN_VALUE, Integer.MAX_VALUE};

    public static void main(String[] args) {
        numbersOfTheHouse();
        propertiesOfADoor();
        propertiesOfARoom();
        propertiesOfAGuard();
        stepsOfAWalk();
        roomOfRefusals();
        guardsInRefusals();
        guardsInAsASet();
        nextSeenMinutes();
        nextSeenFromTheMinuteOn();
        nextSeenNever();
        gapFromRefusals();
        isJoinedRefusals();
        notJoinedToItself();
        distanceRefusals();
        distanceWithoutAWay();
        distanceOfTheLongestWay();
        meetingsRefusals();
        aGuardAndItself();
        minutesOfTheCycleOfAllGuards();
        nextMeetingMinutes();
        nextMeetingNever();
        worstWithAnotherPhase();
        bestPhaseRefusals();
        Check.end();
    }

    private static void numbersOfTheHouse() {
        Check.sentence("what: 0 rooms .. 9 sightings of all rooms; NoSuchElementException if what is out of range");
        GuardWalks x = Check.loaded(HOUSE);
        x.pass(2);
        int[] due = {3, 2, 2, 3, 2, 1, 2, 1, 1, 3};
        for (int what = 0; what < due.length; what++) {
            Check.due("size(" + what + ")", x.size(what), due[what]);
        }
        Check.dueNoSuch("size(-1)", () -> x.size(-1));
        Check.dueNoSuch("size(10)", () -> x.size(10));
        for (int what : FAR) {
            Check.dueNoSuch("size(" + what + ")", () -> x.size(what));
        }
    }

    private static void propertiesOfADoor() {
        Check.sentence("NoSuchElementException if there is no such door or what is out of range");
        GuardWalks x = Check.loaded(HOUSE);
        int[][] due = {{0, 1, 1, 1}, {1, 2, 0, 0}};
        for (int door = 0; door < 2; door++) {
            for (int what = 0; what < 4; what++) {
                Check.due("door(" + door + ", " + what + ")", x.door(door, what), due[door][what]);
            }
        }
        Check.dueNoSuch("door(0, -1)", () -> x.door(0, -1));
        Check.dueNoSuch("door(0, 4)", () -> x.door(0, 4));
        Check.dueNoSuch("door(-1, 0)", () -> x.door(-1, 0));
        Check.dueNoSuch("door(2, 0)", () -> x.door(2, 0));
        for (int wrong : FAR) {
            Check.dueNoSuch("door(0, " + wrong + ")", () -> x.door(0, wrong));
            Check.dueNoSuch("door(" + wrong + ", 0)", () -> x.door(wrong, 0));
        }
        Check.dueNoSuch("door(0, 0) without doors", () -> new GuardWalks().door(0, 0));
    }

    private static void propertiesOfARoom() {
        Check.sentence("NoSuchElementException if there is no such room or what is out of range");
        GuardWalks x = Check.loaded(HOUSE);
        x.pass(2);
        int[][] due = {{99, 0, 0, 3, 2, 1, 0, 0}, {0, 1, 1, 2, 1, 1, 0, 1}, {99, -1, 1, 0, 0, -1, 2, 2}};
        for (int room = 0; room < 3; room++) {
            for (int what = 0; what < 8; what++) {
                Check.due("room(" + room + ", " + what + ")", x.room(room, what), due[room][what]);
            }
        }
        Check.dueNoSuch("room(0, -1)", () -> x.room(0, -1));
        Check.dueNoSuch("room(0, 8)", () -> x.room(0, 8));
        Check.dueNoSuch("room(-1, 0)", () -> x.room(-1, 0));
        Check.dueNoSuch("room(3, 0)", () -> x.room(3, 0));
        for (int wrong : FAR) {
            Check.dueNoSuch("room(0, " + wrong + ")", () -> x.room(0, wrong));
            Check.dueNoSuch("room(" + wrong + ", 0)", () -> x.room(wrong, 0));
        }
    }

    private static void propertiesOfAGuard() {
        Check.sentence("NoSuchElementException if there is no such guard or what is out of range");
        GuardWalks x = Check.loaded(HOUSE);
        x.pass(2);
        int[][] due = {{3, 0, 1, 2}, {1, 0, 0, 1}};
        for (int guard = 0; guard < 2; guard++) {
            for (int what = 0; what < 4; what++) {
                Check.due("guard(" + guard + ", " + what + ")", x.guard(guard, what), due[guard][what]);
            }
        }
        Check.dueNoSuch("guard(0, -1)", () -> x.guard(0, -1));
        Check.dueNoSuch("guard(0, 4)", () -> x.guard(0, 4));
        Check.dueNoSuch("guard(-1, 0)", () -> x.guard(-1, 0));
        Check.dueNoSuch("guard(2, 0)", () -> x.guard(2, 0));
        for (int wrong : FAR) {
            Check.dueNoSuch("guard(0, " + wrong + ")", () -> x.guard(0, wrong));
            Check.dueNoSuch("guard(" + wrong + ", 0)", () -> x.guard(wrong, 0));
        }
        Check.dueNoSuch("guard(0, 0) without guards", () -> new GuardWalks().guard(0, 0));
    }

    private static void stepsOfAWalk() {
        Check.sentence("NONE if there are not so many, or step is negative");
        GuardWalks x = Check.loaded(HOUSE + "guard 2 2 2 2 2 2 2 2 2 2;");
        int[] due = {-1, 0, 1, 1, -1, -1};
        for (int step = -1; step < 5; step++) {
            Check.due("walk(0, " + step + ")", x.walk(0, step), due[step + 1]);
        }
        // not the first room of the next guard's walk
        Check.due("walk(0, 10)", x.walk(0, 10), -1);
        Check.due("walk(1, 1)", x.walk(1, 1), -1);
        Check.due("walk(2, 9)", x.walk(2, 9), 2);
        Check.due("walk(2, 10)", x.walk(2, 10), -1);
        Check.due("walk(1, -1)", x.walk(1, -1), -1);
        for (int wrong : FAR) {
            Check.due("walk(0, " + wrong + ")", x.walk(0, wrong), -1);
            Check.dueNoSuch("walk(" + wrong + ", 0)", () -> x.walk(wrong, 0));
        }
        Check.dueNoSuch("walk(-1, -1)", () -> x.walk(-1, -1));
        Check.dueNoSuch("walk(3, 0)", () -> x.walk(3, 0));
    }

    private static void roomOfRefusals() {
        Check.sentence("if there is no such guard (checked first); if minute is negative (roomOf)");
        GuardWalks x = Check.loaded(HOUSE);
        Check.due("roomOf(0, 0)", x.roomOf(0, 0), 0);
        Check.dueIllegal("roomOf(0, -1)", () -> x.roomOf(0, -1));
        Check.dueIllegal("roomOf(0, MIN_VALUE)", () -> x.roomOf(0, Integer.MIN_VALUE));
        Check.due("roomOf(0, 1000001)", x.roomOf(0, 1000001), 1);
        Check.due("roomOf(0, MAX_VALUE)", x.roomOf(0, Integer.MAX_VALUE), 1);
        int[] wrong = {-1, 2, 4, Integer.MIN_VALUE, Integer.MAX_VALUE};
        for (int guard : wrong) {
            Check.dueNoSuch("roomOf(" + guard + ", 0)", () -> x.roomOf(guard, 0));
            Check.dueNoSuch("roomOf(" + guard + ", -1)", () -> x.roomOf(guard, -1));
        }
    }

    private static void guardsInRefusals() {
        Check.sentence("if there is no such room (checked first); if minute is negative (guardsIn)");
        GuardWalks x = Check.loaded(HOUSE);
        Check.dueIllegal("guardsIn(0, -1)", () -> x.guardsIn(0, -1));
        Check.dueIllegal("guardsIn(0, MIN_VALUE)", () -> x.guardsIn(0, Integer.MIN_VALUE));
        Check.due("guardsIn(1, 1000001)", x.guardsIn(1, 1000001), 1);
        Check.due("guardsIn(1, MAX_VALUE)", x.guardsIn(1, Integer.MAX_VALUE), 1);
        int[] wrong = {-1, 3, 12, Integer.MIN_VALUE, Integer.MAX_VALUE};
        for (int room : wrong) {
            Check.dueNoSuch("guardsIn(" + room + ", 0)", () -> x.guardsIn(room, 0));
            Check.dueNoSuch("guardsIn(" + room + ", -1)", () -> x.guardsIn(room, -1));
        }
    }

    private static void guardsInAsASet() {
        Check.sentence("the guards in a room at a minute, as a set (bit g for guard g)");
        GuardWalks x = Check.loaded("house 3;door 0 1;guard 0;guard 1 0;guard 1;guard 0 1;");
        Check.due("guardsIn(0, 0)", x.guardsIn(0, 0), 1 + 8);
        Check.due("guardsIn(1, 0)", x.guardsIn(1, 0), 2 + 4);
        Check.due("guardsIn(0, 1)", x.guardsIn(0, 1), 1 + 2);
        Check.due("guardsIn(1, 1)", x.guardsIn(1, 1), 4 + 8);
        Check.due("guardsIn(2, 0)", x.guardsIn(2, 0), 0);
        Check.due("without guards", new GuardWalks().guardsIn(0, 0), 0);
    }

    private static void nextSeenMinutes() {
        Check.sentence("minute: 0 to 1000000 (nextSeen; the room is checked first)");
        GuardWalks x = Check.loaded("house 2;door 0 1;guard 0 1 1;");
        Check.due("nextSeen(0, 0)", x.nextSeen(0, 0), 0);
        // 1000000 is 1 modulo 3
        Check.due("nextSeen(1, 1000000)", x.nextSeen(1, 1000000), 1000000);
        Check.due("nextSeen(0, 1000000)", x.nextSeen(0, 1000000), 1000002);
        Check.due("nextSeen(0, 999999)", x.nextSeen(0, 999999), 999999);
        int[] wrong = {-1, 1000001, Integer.MIN_VALUE, Integer.MAX_VALUE};
        for (int minute : wrong) {
            Check.dueIllegal("nextSeen(0, " + minute + ")", () -> x.nextSeen(0, minute));
            Check.dueNoSuch("nextSeen(2, " + minute + ")", () -> x.nextSeen(2, minute));
            Check.dueNoSuch("nextSeen(-1, " + minute + ")", () -> x.nextSeen(-1, minute));
        }
        Check.dueNoSuch("nextSeen(2, 0)", () -> x.nextSeen(2, 0));
    }

    private static void nextSeenFromTheMinuteOn() {
        Check.sentence("Returns the first minute from one on at which a room is seen");
        GuardWalks x = Check.loaded("house 2;door 0 1;guard 0 1 1 1 1 1 1 1 1 1;guard 1 1 1 0;");
        int[] due = {0, 3, 3, 3, 7, 7, 7, 7, 10, 10, 10, 11};
        for (int minute = 0; minute < due.length; minute++) {
            Check.due("nextSeen(0, " + minute + ")", x.nextSeen(0, minute), due[minute]);
        }
        // once in a cycle of 2520 minutes there is nobody in room 1
        GuardWalks rare = Check.loaded("house 2;door 0 1;guard 0 1 1 1 1 1 1;guard 0 1 1 1 1 1 1 1;guard 0 1 1 1 1 1 1 1 1;"
            + "guard 0 1 1 1 1 1 1 1 1 1;");
        Check.due("nextSeen(1, 0)", rare.nextSeen(1, 0), 1);
        Check.due("gap of room 1", rare.room(1, 1), 1);
        Check.due("minutes at which room 1 is seen", rare.room(1, 3), 2519);
    }

    private static void nextSeenNever() {
        Check.sentence("NONE if it is never seen");
        GuardWalks x = Check.loaded("house 3;door 0 1;guard 0 1;");
        Check.due("nextSeen(2, 0)", x.nextSeen(2, 0), -1);
        Check.due("nextSeen(2, 1000000)", x.nextSeen(2, 1000000), -1);
        Check.due("without guards", new GuardWalks().nextSeen(0, 0), -1);
    }

    private static void gapFromRefusals() {
        Check.sentence("NoSuchElementException if there is no such room (gapFrom)");
        GuardWalks x = Check.loaded(HOUSE);
        int[] wrong = {-1, 3, 12, Integer.MIN_VALUE, Integer.MAX_VALUE};
        for (int room : wrong) {
            Check.dueNoSuch("gapFrom(" + room + ")", () -> x.gapFrom(room));
        }
        Check.due("gapFrom(2)", x.gapFrom(2), -1);
        Check.due("gapFrom(1)", x.gapFrom(1), 0);
    }

    private static void isJoinedRefusals() {
        Check.sentence("NoSuchElementException if there is no such room (isJoined)");
        GuardWalks x = Check.loaded(HOUSE);
        int[] wrong = {-1, 3, 12, 32, Integer.MIN_VALUE, Integer.MAX_VALUE};
        for (int room : wrong) {
            Check.dueNoSuch("isJoined(" + room + ", 0)", () -> x.isJoined(room, 0));
            Check.dueNoSuch("isJoined(0, " + room + ")", () -> x.isJoined(0, room));
            Check.dueNoSuch("isJoined(" + room + ", " + room + ")", () -> x.isJoined(room, room));
        }
    }

    private static void notJoinedToItself() {
        Check.sentence("a room is not joined to itself");
        GuardWalks x = Check.loaded("house 2;door 0 1;door 0 1;");
        Check.due("isJoined(0, 0)", x.isJoined(0, 0), false);
        Check.due("isJoined(1, 1)", x.isJoined(1, 1), false);
        Check.due("in a house of one room", new GuardWalks().isJoined(0, 0), false);
    }

    private static void distanceRefusals() {
        Check.sentence("NoSuchElementException if there is no such room (distance)");
        GuardWalks x = Check.loaded(HOUSE);
        int[] wrong = {-1, 3, 12, 32, Integer.MIN_VALUE, Integer.MAX_VALUE};
        for (int room : wrong) {
            Check.dueNoSuch("distance(" + room + ", 0)", () -> x.distance(room, 0));
            Check.dueNoSuch("distance(0, " + room + ")", () -> x.distance(0, room));
            Check.dueNoSuch("distance(" + room + ", " + room + ")", () -> x.distance(room, room));
        }
    }

    private static void distanceWithoutAWay() {
        Check.sentence("through open doors; NONE if there is no way");
        GuardWalks x = Check.loaded("house 4;door 0 1;door 1 2 closed;door 2 3;");
        Check.due("distance(0, 2)", x.distance(0, 2), -1);
        Check.due("distance(3, 1)", x.distance(3, 1), -1);
        Check.due("distance(0, 1)", x.distance(0, 1), 1);
        Check.due("distance(3, 3)", x.distance(3, 3), 0);
        x.openDoor(1);
        Check.due("distance(0, 3)", x.distance(0, 3), 3);
        x.closeDoor(0);
        Check.due("distance(0, 3)", x.distance(0, 3), -1);
        Check.due("distance(3, 1)", x.distance(3, 1), 2);
    }

    private static void distanceOfTheLongestWay() {
        Check.sentence("the least number of doors on a way from a room to another one");
        StringBuilder text = new StringBuilder("house 12;");
        for (int room = 0; room < 11; room++) {
            text.append("door ").append(room + 1).append(' ').append(room).append(';');
        }
        GuardWalks x = Check.loaded(text + "door 0 6 closed;");
        Check.due("distance(0, 11)", x.distance(0, 11), 11);
        Check.due("distance(11, 0)", x.distance(11, 0), 11);
        Check.due("distance(5, 9)", x.distance(5, 9), 4);
        x.openDoor(11);
        Check.due("distance(0, 11) by the shorter way", x.distance(0, 11), 6);
        Check.due("distance(5, 0) by the shorter way", x.distance(5, 0), 2);
        Check.due("distance(3, 0) by either way", x.distance(3, 0), 3);
    }

    private static void meetingsRefusals() {
        Check.sentence("NoSuchElementException if there is no such guard (meetings and passings)");
        GuardWalks x = Check.loaded(HOUSE);
        int[] wrong = {-1, 2, 4, Integer.MIN_VALUE, Integer.MAX_VALUE};
        for (int guard : wrong) {
            Check.dueNoSuch("meetings(" + guard + ", 0)", () -> x.meetings(guard, 0));
            Check.dueNoSuch("meetings(0, " + guard + ")", () -> x.meetings(0, guard));
            Check.dueNoSuch("meetings(" + guard + ", " + guard + ")", () -> x.meetings(guard, guard));
            Check.dueNoSuch("passings(" + guard + ", 0)", () -> x.passings(guard, 0));
            Check.dueNoSuch("passings(0, " + guard + ")", () -> x.passings(0, guard));
            Check.dueNoSuch("passings(" + guard + ", " + guard + ")", () -> x.passings(guard, guard));
        }
    }

    private static void aGuardAndItself() {
        Check.sentence("0 for a guard and itself");
        GuardWalks x = Check.loaded("house 2;door 0 1;guard 0 1;guard 0 1;");
        for (int guard = 0; guard < 2; guard++) {
            Check.due("meetings(" + guard + ", " + guard + ")", x.meetings(guard, guard), 0);
            Check.due("passings(" + guard + ", " + guard + ")", x.passings(guard, guard), 0);
        }
        Check.due("meetings(0, 1)", x.meetings(0, 1), 2);
    }

    private static void minutesOfTheCycleOfAllGuards() {
        Check.sentence("the number of minutes of a cycle at which two guards meet");
        GuardWalks x = Check.loaded("house 2;door 0 1;guard 0 1;guard 1 0;guard 0 0 1;guard 0;");
        Check.due("cycle", x.size(3), 6);
        Check.due("passings(0, 1)", x.passings(0, 1), 6);
        Check.due("meetings(0, 3)", x.meetings(0, 3), 3);
        Check.due("meetings(2, 3)", x.meetings(2, 3), 4);
        Check.due("meetings(0, 2)", x.meetings(0, 2), 3);
        Check.due("passings(0, 2)", x.passings(0, 2), 2);
    }

    private static void nextMeetingMinutes() {
        Check.sentence("minute: 0 to 1000000 (nextMeeting; the guards are checked first)");
        GuardWalks x = Check.loaded("house 2;door 0 1;guard 0 1 1;guard 0;");
        Check.due("nextMeeting(0, 1, 0)", x.nextMeeting(0, 1, 0), 0);
        Check.due("nextMeeting(0, 1, 1)", x.nextMeeting(0, 1, 1), 3);
        Check.due("nextMeeting(1, 0, 1000000)", x.nextMeeting(1, 0, 1000000), 1000002);
        int[] wrong = {-1, 1000001, Integer.MIN_VALUE, Integer.MAX_VALUE};
        for (int minute : wrong) {
            Check.dueIllegal("nextMeeting(0, 1, " + minute + ")", () -> x.nextMeeting(0, 1, minute));
            Check.dueIllegal("nextMeeting(1, 1, " + minute + ")", () -> x.nextMeeting(1, 1, minute));
            Check.dueNoSuch("nextMeeting(2, 1, " + minute + ")", () -> x.nextMeeting(2, 1, minute));
            Check.dueNoSuch("nextMeeting(0, -1, " + minute + ")", () -> x.nextMeeting(0, -1, minute));
        }
        Check.dueNoSuch("nextMeeting(2, 2, 0)", () -> x.nextMeeting(2, 2, 0));
        Check.dueNoSuch("nextMeeting(0, 2, 0)", () -> x.nextMeeting(0, 2, 0));
        Check.dueNoSuch("nextMeeting(-1, 0, 0)", () -> x.nextMeeting(-1, 0, 0));
    }

    private static void nextMeetingNever() {
        Check.sentence("NONE if they never do (also for a guard and itself)");
        GuardWalks x = Check.loaded("house 2;door 0 1;guard 0 1;guard 1 0;");
        Check.due("nextMeeting of guards who only pass", x.nextMeeting(0, 1, 0), -1);
        Check.due("nextMeeting(0, 0, 0)", x.nextMeeting(0, 0, 0), -1);
        Check.due("nextMeeting(1, 1, 1000000)", x.nextMeeting(1, 1, 1000000), -1);
        // once in 90 minutes: at 89
        GuardWalks rare = Check.loaded("house 3;door 0 1;door 0 2;guard 1 1 1 1 1 1 1 1 1 0;guard 2 2 2 2 2 2 2 2 0;");
        Check.due("nextMeeting(0, 1, 0) of a rare meeting", rare.nextMeeting(0, 1, 0), 89);
        Check.due("nextMeeting(0, 1, 90) of a rare meeting", rare.nextMeeting(0, 1, 90), 179);
        Check.due("meetings(0, 1)", rare.meetings(0, 1), 1);
    }

    private static void worstWithAnotherPhase() {
        Check.sentence("Returns the worst gap if a guard had another phase");
        GuardWalks x = Check.loaded("house 3;door 0 1;guard 0 1 1 0;guard 1 0 0 1 phase 2;");
        int[] due = {0, 1, 2, 1};
        for (int phase = 0; phase < 4; phase++) {
            Check.due("worstWith(1, " + phase + ")", x.worstWith(1, phase), due[phase]);
        }
        x.shift(0, 1);
        int[] shifted = {1, 0, 1, 2};
        for (int phase = 0; phase < 4; phase++) {
            Check.due("worstWith(1, " + phase + ") beside a shifted guard", x.worstWith(1, phase), shifted[phase]);
        }
        x.undo();
        Check.due("worstWith(1, 1) after undo", x.worstWith(1, 1), 1);
        Check.due("the phase it has", x.guard(1, 1), 2);
        Check.due("the worst gap it has", x.size(5), 2);
        Check.due("undoCount()", x.undoCount(), 0);
    }

    private static void bestPhaseRefusals() {
        Check.sentence("NoSuchElementException if there is no such guard (bestPhase)");
        GuardWalks x = Check.loaded(HOUSE);
        int[] wrong = {-1, 2, 4, Integer.MIN_VALUE, Integer.MAX_VALUE};
        for (int guard : wrong) {
            Check.dueNoSuch("bestPhase(" + guard + ")", () -> x.bestPhase(guard));
            Check.dueNoSuch("bestPhase(" + guard + ") without guards", () -> new GuardWalks().bestPhase(guard));
        }
        Check.dueNoSuch("bestPhase(0) without guards", () -> new GuardWalks().bestPhase(0));
    }
}
