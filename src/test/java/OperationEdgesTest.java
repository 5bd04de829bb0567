import java.util.function.Consumer;

/** The edges that the promises 28 to 34 name, and what "Operations" says of calls that are refused: a method for each sentence. */
public final class OperationEdgesTest {
    private static final String ROUND = "house 5;door 0 1;door 1 2;door 2 3;door 3 0;door 1 0 closed;door 0 2 closed;";
    private static final String GUARDED = ROUND + "limit 0 3;guard 0 1 2 3;guard 3 3 phase 1;";

    public static void main(String[] args) {
        recordedEvenIfNothingChanges();
        refusedByAnExceptionChangesNothing();
        refusedByACodeChangesNothing();
        refusedChangeMovesBufferAndPosition();
        exceptionsBeforeCodes();
        codesInTheirOrder();
        shiftAnswersTheWorstGap();
        shiftRefusals();
        adoptCountsChangedPhases();
        adoptTakesTheBest();
        closeDoorCountsOpenDoors();
        closeDoorThatIsClosed();
        closeDoorThatAWalkNeeds();
        closeDoorFromLastToFirst();
        closeDoorBesideAnother();
        closeDoorWithoutAWalk();
        openDoorThatIsOpen();
        doorsOutOfRange();
        setLimitCountsLateRooms();
        setLimitRefusals();
        changeAnswersTheCycle();
        changeTakesWalkAndPhase();
        changeOfTheGuardsThere();
        changeByTheDoorsAsTheyAre();
        changeEmptiesTheBuffer();
        changeRefusesLengths();
        Check.end();
    }

    private static void recordedEvenIfNothingChanges() {
        Check.sentence("Every successful call of an operation is recorded, even if it changes nothing");
        GuardWalks x = Check.loaded(ROUND + "limit 0 3;guard 0 1 2 3;guard 3 3;");
        String before = Check.facts(x);
        Check.due("shift(0, 0)", x.shift(0, 0), 3);
        Check.due("undoCount() after shift", x.undoCount(), 1);
        Check.due("adopt()", x.adopt(), 0);
        Check.due("undoCount() after adopt", x.undoCount(), 2);
        Check.due("setLimit(0, 3)", x.setLimit(0, 3), 1);
        Check.due("undoCount() after setLimit", x.undoCount(), 3);
        Check.due("change", Check.change(x, "walk 0 0 1 2 3"), 4);
        Check.due("undoCount() after change", x.undoCount(), 4);
        Check.due("facts", Check.facts(x), before);
        for (int left = 3; left >= 0; left--) {
            Check.due("undo()", x.undo(), left);
        }
        GuardWalks none = new GuardWalks();
        Check.due("adopt() without guards", none.adopt(), 0);
        Check.due("undoCount()", none.undoCount(), 1);
    }

    private static void dueUnchanged(String name, Consumer<GuardWalks> call) {
        GuardWalks x = Check.loaded(GUARDED);
        x.pass(2);
        x.shift(0, 1);
        x.undo();
        String before = Check.state(x);
        Check.thrown(() -> call.accept(x));
        Check.due("state after " + name, Check.state(x), before);
    }

    private static void refusedByAnExceptionChangesNothing() {
        Check.sentence("A call that throws an exception changes nothing");
        dueUnchanged("pass(0)", x -> x.pass(0));
        dueUnchanged("pass(501)", x -> x.pass(501));
        dueUnchanged("shift(0, 4)", x -> x.shift(0, 4));
        dueUnchanged("shift(0, -1)", x -> x.shift(0, -1));
        dueUnchanged("shift(2, 0)", x -> x.shift(2, 0));
        dueUnchanged("closeDoor(6)", x -> x.closeDoor(6));
        dueUnchanged("openDoor(-1)", x -> x.openDoor(-1));
        dueUnchanged("setLimit(0, 100)", x -> x.setLimit(0, 100));
        dueUnchanged("setLimit(0, -1)", x -> x.setLimit(0, -1));
        dueUnchanged("setLimit(5, 0)", x -> x.setLimit(5, 0));
        dueUnchanged("change(21)", x -> x.change(21));
        dueUnchanged("change(-1)", x -> x.change(-1));
    }

    private static void refusedByACodeChangesNothing() {
        Check.sentence("A call that returns a negative error code changes nothing");
        dueUnchanged("closeDoor(4)", x -> Check.due("closeDoor(4)", x.closeDoor(4), -2));
        dueUnchanged("closeDoor(0)", x -> Check.due("closeDoor(0)", x.closeDoor(0), -3));
        dueUnchanged("openDoor(0)", x -> Check.due("openDoor(0)", x.openDoor(0), -2));
        dueUnchanged("a change with error 1", x -> Check.due("change", Check.change(x, "walk 0 1 2 1 0 ?"), -11));
        dueUnchanged("a change with error 2", x -> Check.due("change", Check.change(x, "walk 0 1 2 1 0 phase 4"), -12));
        dueUnchanged("a change with error 3", x -> Check.due("change", Check.change(x, "walk 0 1 1 1 1 1 1 1 1 1 1 1"), -13));
        dueUnchanged("a change with error 4", x -> Check.due("change", Check.change(x, "walk 1 0 1 2"), -14));
    }

    private static void refusedChangeMovesBufferAndPosition() {
        Check.sentence("(change: but the buffer and the error position)");
        GuardWalks x = Check.loaded(GUARDED);
        Check.feed(x, "walk 0 0 2");
        Check.due("change", x.change(10), -14);
        Check.due("errorPosition()", x.errorPosition(), 9);
        Check.dueIllegal("change(1)", () -> x.change(1));
        Check.due("errorPosition() after an exception", x.errorPosition(), 9);
        Check.due("feed", x.feed(0, 0, 0, 0, 0), 20);
    }

    private static void exceptionsBeforeCodes() {
        Check.sentence("the exceptions are checked before the error codes");
        GuardWalks x = Check.loaded("house 2;door 0 1;door 0 1 closed;guard 0 1;");
        for (int i = 0; i < 200; i++) {
            x.pass(i < 199 ? 500 : 499);
        }
        Check.due("pass(1) at 99999", x.pass(1), -2);
        Check.dueIllegal("pass(0) at 99999", () -> x.pass(0));
        Check.dueIllegal("pass(501) at 99999", () -> x.pass(501));
        Check.dueIllegal("pass(MAX_VALUE) at 99999", () -> x.pass(Integer.MAX_VALUE));
        Check.feed(x, "?");
        Check.dueIllegal("change(21) of a text with an error", () -> x.change(21));
        Check.due("change(20)", x.change(20), -11);
        Check.dueNoSuch("shift(1, -1): the guard first", () -> x.shift(1, -1));
        Check.dueNoSuch("shift(-1, 2): the guard first", () -> x.shift(-1, 2));
        Check.dueNoSuch("setLimit(2, 100): the room first", () -> x.setLimit(2, 100));
        Check.dueNoSuch("setLimit(-1, -1): the room first", () -> x.setLimit(-1, -1));
    }

    private static void codesInTheirOrder() {
        Check.sentence("and these in the order in which they are listed");
        // the closed door is between rooms that a walk goes through
        GuardWalks x = Check.loaded("house 2;door 0 1;door 0 1 closed;guard 0 1;");
        Check.due("closeDoor(1)", x.closeDoor(1), -2);
        Check.due("closeDoor(0)", x.closeDoor(0), -3);
        Check.due("openDoor(1)", x.openDoor(1), 2);
        Check.due("closeDoor(0)", x.closeDoor(0), 1);
        Check.due("closeDoor(0)", x.closeDoor(0), -2);
        Check.due("closeDoor(1)", x.closeDoor(1), -3);
    }

    private static void shiftAnswersTheWorstGap() {
        Check.sentence("Operation: a guard gets another phase. Returns the worst gap then");
        GuardWalks x = Check.loaded(ROUND + "guard 0 1 2 3;guard 0 1 2 3;");
        int[] due = {3, 2, 1, 2};
        for (int phase = 3; phase >= 0; phase--) {
            Check.due("worstWith(1, " + phase + ")", x.worstWith(1, phase), due[phase]);
            Check.due("shift(1, " + phase + ")", x.shift(1, phase), due[phase]);
            Check.due("worst gap", x.size(5), due[phase]);
            Check.due("phase", x.guard(1, 1), phase);
            Check.due("room now", x.guard(1, 2), phase);
        }
        Check.due("shift of one who sees one room always", Check.loaded("house 2;guard 1 1;").shift(0, 1), 0);
    }

    private static void shiftRefusals() {
        Check.sentence("if phase is not 0 to the period less 1 (shift and worstWith, the guard is checked first)");
        GuardWalks x = Check.loaded(GUARDED);
        int[] wrong = {-1, 4, 10, Integer.MIN_VALUE, Integer.MAX_VALUE};
        for (int phase : wrong) {
            Check.dueIllegal("shift(0, " + phase + ")", () -> x.shift(0, phase));
            Check.dueIllegal("worstWith(0, " + phase + ")", () -> x.worstWith(0, phase));
            Check.dueNoSuch("shift(2, " + phase + ")", () -> x.shift(2, phase));
            Check.dueNoSuch("worstWith(2, " + phase + ")", () -> x.worstWith(2, phase));
            Check.dueNoSuch("shift(-1, " + phase + ")", () -> x.shift(-1, phase));
            Check.dueNoSuch("worstWith(-1, " + phase + ")", () -> x.worstWith(-1, phase));
        }
        Check.dueIllegal("shift(1, 2)", () -> x.shift(1, 2));
        Check.dueIllegal("worstWith(1, 2)", () -> x.worstWith(1, 2));
        Check.due("worstWith(1, 1)", x.worstWith(1, 1), 3);
        Check.due("worstWith(0, 3)", x.worstWith(0, 3), 3);
    }

    private static void adoptCountsChangedPhases() {
        Check.sentence("Returns the number of guards whose phase changes");
        String two = ROUND + "guard 0 1 2 3 phase ";
        int[] phases = {0, 1, 2, 3};
        for (int phase : phases) {
            // the best phases are 0 and 2
            GuardWalks x = Check.loaded(two + phase + ";guard 0 1 2 3 phase 2;");
            Check.due("adopt() from " + phase + " and 2", x.adopt(), phase == 0 ? 0 : 1);
            Check.due("adopt() again", x.adopt(), 0);
            Check.due("adopt() from " + phase + " and 3", Check.loaded(two + phase + ";guard 0 1 2 3 phase 3;").adopt(), phase == 0 ? 1 : 2);
        }
        Check.due("adopt() of four guards", Check.loaded("house 1;" + "guard 0 0 phase 1;".repeat(4)).adopt(), 4);
        Check.due("adopt() without guards", new GuardWalks().adopt(), 0);
    }

    private static void adoptTakesTheBest() {
        Check.sentence("Operation: the guards get the best phases");
        GuardWalks x = Check.loaded(ROUND + "guard 0 1 2 3 phase 1;guard 0 1 2 3 phase 1;");
        x.pass(2);
        x.adopt();
        Check.due("phase of guard 0", x.guard(0, 1), 0);
        Check.due("phase of guard 1", x.guard(1, 1), 2);
        Check.due("worst gap", x.size(5), 1);
        Check.due("crossings", x.size(7), 0);
        Check.due("room of guard 1 at minute 2", x.guard(1, 2), 0);
        Check.due("minute", x.size(4), 2);
        x.undo();
        Check.due("phase of guard 1 after undo", x.guard(1, 1), 1);
        Check.due("worst gap after undo", x.size(5), 3);
    }

    private static void closeDoorCountsOpenDoors() {
        Check.sentence("Returns the number of open doors then");
        GuardWalks x = Check.loaded("house 2;door 0 1;door 0 1 closed;door 0 1;");
        Check.due("closeDoor(0)", x.closeDoor(0), 1);
        Check.due("closeDoor(2)", x.closeDoor(2), 0);
        Check.due("openDoor(1)", x.openDoor(1), 1);
        Check.due("openDoor(0)", x.openDoor(0), 2);
        Check.due("openDoor(2)", x.openDoor(2), 3);
    }

    private static void closeDoorThatIsClosed() {
        Check.sentence("-2 if it is closed already");
        GuardWalks x = Check.loaded("house 2;door 0 1 closed;door 0 1;");
        Check.due("closeDoor(0)", x.closeDoor(0), -2);
        Check.due("closeDoor(1)", x.closeDoor(1), 0);
        Check.due("closeDoor(1)", x.closeDoor(1), -2);
        x.undo();
        Check.due("closeDoor(1) after undo", x.closeDoor(1), 0);
    }

    private static void closeDoorThatAWalkNeeds() {
        Check.sentence("-3 if a walk goes through between its rooms and there is no other open door between them");
        GuardWalks x = Check.loaded("house 3;door 0 1;door 1 2;guard 2;guard 0 1;");
        Check.due("closeDoor(0)", x.closeDoor(0), -3);
        Check.due("closeDoor(1)", x.closeDoor(1), 1);
        // against the direction in which the door is told
        GuardWalks back = Check.loaded("house 3;door 1 0;door 2 1;door 0 2;guard 0 1 2;");
        for (int door = 0; door < 3; door++) {
            Check.due("closeDoor(" + door + ")", back.closeDoor(door), -3);
        }
        // the guard that needs it has no need any more
        Check.change(x, "walk 1 0");
        Check.due("closeDoor(0)", x.closeDoor(0), 0);
    }

    private static void closeDoorFromLastToFirst() {
        Check.sentence("from a room to the next one of the walk, also from the last one to the first one, either way");
        GuardWalks x = Check.loaded("house 3;door 0 1;door 1 2;door 2 0;guard 0 1 2;guard 2 1 0;guard 0 0 1;guard 1;");
        int[] due = {3, 2, 2};
        for (int door = 0; door < 3; door++) {
            Check.due("door(" + door + ", 3)", x.door(door, 3), due[door]);
            Check.due("closeDoor(" + door + ")", x.closeDoor(door), -3);
        }
        GuardWalks y = Check.loaded("house 3;door 0 1;door 1 2;door 2 0;guard 0 1 2;");
        Check.due("door(2, 3)", y.door(2, 3), 1);
        Check.due("closeDoor(2)", y.closeDoor(2), -3);
        GuardWalks ten = Check.loaded("house 3;door 0 1;door 1 2;door 2 0;guard 0 0 0 0 0 0 0 0 1 2;");
        Check.due("door(2, 3) from the tenth room to the first one", ten.door(2, 3), 1);
        Check.due("closeDoor(2) from the tenth room to the first one", ten.closeDoor(2), -3);
        Check.due("each counts once", Check.loaded("house 2;door 0 1;guard 0 1 0 1 0 1;").door(0, 3), 1);
        Check.due("a closed door between them", Check.loaded("house 2;door 0 1;door 1 0 closed;guard 0 1;").door(1, 3), 1);
    }

    private static void closeDoorBesideAnother() {
        Check.sentence("and there is no other open door between them");
        GuardWalks x = Check.loaded("house 3;door 0 1;door 1 0;door 0 1 closed;door 1 2;guard 0 1;");
        Check.due("closeDoor(1) beside the first one", x.closeDoor(1), 2);
        x.undo();
        Check.due("closeDoor(0) beside the next one", x.closeDoor(0), 2);
        Check.due("closeDoor(1) beside closed ones", x.closeDoor(1), -3);
        x.openDoor(2);
        Check.due("closeDoor(1) beside an open one", x.closeDoor(1), 2);
        Check.due("closeDoor(2), the last one", x.closeDoor(2), -3);
    }

    private static void closeDoorWithoutAWalk() {
        Check.sentence("if a walk goes through between its rooms");
        // guards that are in both rooms, but go by way of another one, or stay
        GuardWalks x = Check.loaded("house 3;door 0 1;door 1 2;door 2 0;guard 0 1 2 1;guard 0;guard 2 2;");
        Check.due("closeDoor(2)", x.closeDoor(2), 2);
        Check.due("closeDoor(0)", x.closeDoor(0), -3);
    }

    private static void openDoorThatIsOpen() {
        Check.sentence("-2 if it is open already");
        GuardWalks x = Check.loaded("house 2;door 0 1;door 0 1 closed;");
        Check.due("openDoor(0)", x.openDoor(0), -2);
        Check.due("openDoor(1)", x.openDoor(1), 2);
        Check.due("openDoor(1)", x.openDoor(1), -2);
        x.undo();
        Check.due("openDoor(1) after undo", x.openDoor(1), 2);
    }

    private static void doorsOutOfRange() {
        Check.sentence("NoSuchElementException if there is no such door");
        GuardWalks x = Check.loaded("house 2;door 0 1;door 0 1 closed;");
        int[] wrong = {-1, 2, 20, 32, Integer.MIN_VALUE, Integer.MAX_VALUE};
        for (int door : wrong) {
            Check.dueNoSuch("closeDoor(" + door + ")", () -> x.closeDoor(door));
            Check.dueNoSuch("openDoor(" + door + ")", () -> x.openDoor(door));
            Check.dueNoSuch("door(" + door + ", 0)", () -> x.door(door, 0));
            Check.dueNoSuch("closeDoor(" + door + ") without doors", () -> new GuardWalks().closeDoor(door));
        }
        Check.dueNoSuch("closeDoor(0) without doors", () -> new GuardWalks().closeDoor(0));
        Check.dueNoSuch("openDoor(0) without doors", () -> new GuardWalks().openDoor(0));
    }

    private static void setLimitCountsLateRooms() {
        Check.sentence("Returns the number of late rooms then");
        // gaps 3, 3, 3, 0 and none
        GuardWalks x = Check.loaded(GUARDED);
        Check.due("late rooms", x.size(6), 1);
        Check.due("setLimit(0, 2)", x.setLimit(0, 2), 2);
        Check.due("setLimit(1, 0)", x.setLimit(1, 0), 3);
        Check.due("setLimit(3, 0)", x.setLimit(3, 0), 3);
        Check.due("setLimit(4, 99)", x.setLimit(4, 99), 3);
        Check.due("setLimit(0, 3)", x.setLimit(0, 3), 2);
    }

    private static void setLimitRefusals() {
        Check.sentence("if limit is not 0 to 99 (the room is checked first)");
        GuardWalks x = Check.loaded("house 2;");
        int[] wrong = {-1, 100, Integer.MIN_VALUE, Integer.MAX_VALUE};
        for (int limit : wrong) {
            Check.dueIllegal("setLimit(0, " + limit + ")", () -> x.setLimit(0, limit));
            Check.dueNoSuch("setLimit(2, " + limit + ")", () -> x.setLimit(2, limit));
            Check.dueNoSuch("setLimit(-1, " + limit + ")", () -> x.setLimit(-1, limit));
        }
        Check.due("setLimit(1, 0)", x.setLimit(1, 0), 2);
        Check.due("setLimit(1, 99)", x.setLimit(1, 99), 2);
        Check.due("undoCount()", x.undoCount(), 2);
    }

    private static void changeAnswersTheCycle() {
        Check.sentence("Returns the cycle then");
        GuardWalks x = Check.loaded("house 2;guard 0 0 0;guard 1 1;");
        Check.due("cycle", x.size(3), 6);
        Check.due("change to a period of 10", Check.change(x, "walk 1 0 0 0 0 0 0 0 0 0 0"), 30);
        Check.due("change to a period of 1", Check.change(x, "walk 1 0"), 3);
        Check.due("change of the other one", Check.change(x, "walk 0 0"), 1);
        Check.due("cycle", x.size(3), 1);
    }

    private static void changeTakesWalkAndPhase() {
        Check.sentence("the guard has this walk and phase from now on");
        GuardWalks x = Check.loaded(GUARDED);
        x.pass(5);
        Check.due("change", Check.change(x, "walk 1 0 1 0 3 phase 3"), 4);
        Check.due("period", x.guard(1, 0), 4);
        Check.due("phase", x.guard(1, 1), 3);
        Check.due("room at 5", x.guard(1, 2), 0);
        Check.due("different rooms", x.guard(1, 3), 3);
        Check.due("walk(1, 3)", x.walk(1, 3), 3);
        Check.due("minute", x.size(4), 5);
        Check.due("sightings so far", x.room(3, 4), 5);
        Check.due("change to a shorter walk", Check.change(x, "walk 1 2"), 4);
        Check.due("walk(1, 1)", x.walk(1, 1), -1);
        Check.due("phase that is not told", x.guard(1, 1), 0);
        Check.due("different rooms", x.guard(1, 3), 1);
        Check.due("the other guard's walk", x.walk(0, 3), 3);
    }

    private static void changeOfTheGuardsThere() {
        Check.sentence("change: 'walk' GUARD walk");
        GuardWalks x = Check.loaded("house 3;guard 0;guard 0;guard 0;guard 0;");
        Check.due("change of guard 3", Check.change(x, "walk 3 2"), 1);
        Check.due("roomOf(3, 0)", x.roomOf(3, 0), 2);
        Check.due("roomOf(2, 0)", x.roomOf(2, 0), 0);
        Check.due("change of guard 0", Check.change(x, "walk 0 1"), 1);
        Check.due("roomOf(0, 0)", x.roomOf(0, 0), 1);
        String four = "house 3;guard 0;guard 0;guard 0;guard 0;";
        Check.dueChangeError(four, "walk 4 0", 2, 5);
        Check.dueChangeError("house 3;guard 0;", "walk 1 0", 2, 5);
        Check.dueChangeError("house 3;guard 0;", "walk 4294967296 0", 2, 5);
        Check.dueChangeError("house 3;", "walk 0 0", 2, 5);
        Check.dueChangeError(four, "guard 0 0", 1, 0);
        Check.dueChangeError(four, "walk walk 0 0", 1, 5);
        Check.dueChangeError(four, "walk 0", 1, 6);
        Check.dueChangeError(four, "walk 0 phase 0", 1, 7);
        Check.dueChangeError(four, "walk 0 3", 2, 7);
        Check.dueChangeError(four, "walk 0 0 phase", 1, 14);
        Check.dueChangeError(four, "walk 0 0 phase 1", 2, 15);
        Check.dueChangeError(four, "walk 0 0 phase 0 0", 1, 17);
        Check.dueChangeError(four, "walk 0 0 phase 0;", 1, 16);
        Check.dueChangeError(four, "walk 0 0;", 1, 8);
        Check.dueChangeError(four, "walk 0 0 walk 0 0", 1, 9);
        Check.dueChangeError(four, "walk 0 0 1", 4, 9);
    }

    private static void changeByTheDoorsAsTheyAre() {
        Check.sentence("neither the one before nor joined to it (change)");
        GuardWalks x = Check.loaded(ROUND + "guard 4;");
        Check.due("a closed door", Check.change(x, "walk 0 0 2"), -14);
        Check.due("errorPosition()", x.errorPosition(), 9);
        x.openDoor(5);
        Check.due("the opened door", Check.change(x, "walk 0 0 2"), 2);
        x.undo();
        x.undo();
        Check.due("the door closed by undo", Check.change(x, "walk 0 0 2"), -14);
        Check.due("the way round", Check.change(x, "walk 0 0 1 2 3"), 4);
        Check.due("no way back", Check.change(x, "walk 0 0 1 2"), -14);
        Check.due("errorPosition()", x.errorPosition(), 12);
        Check.due("the walk before", x.guard(0, 0), 4);
    }

    private static void changeEmptiesTheBuffer() {
        Check.sentence("The buffer is empty afterwards, also after an error (change)");
        GuardWalks x = Check.loaded("house 2;guard 0;");
        Check.feed(x, "walk 0 1 phase 0 and more");
        Check.due("change(8)", x.change(8), 1);
        Check.due("roomOf(0, 0)", x.roomOf(0, 0), 1);
        Check.dueIllegal("change(1)", () -> x.change(1));
        Check.feed(x, "walk 0 1 phase 0 and more");
        Check.due("change(20)", x.change(20), -11);
        Check.dueIllegal("change(1) after an error", () -> x.change(1));
        Check.due("feed", x.feed(0, 0, 0, 0, 0), 20);
    }

    private static void changeRefusesLengths() {
        Check.sentence("if length is negative or greater than the number of bytes in the buffer (nothing changes) (change)");
        GuardWalks x = Check.loaded("house 2;guard 0;");
        Check.change(x, "walk ?");
        Check.feed(x, "walk 0 1 1 phase 1");
        int[] wrong = {-1, 21, 601, Integer.MIN_VALUE, Integer.MAX_VALUE};
        for (int length : wrong) {
            Check.dueIllegal("change(" + length + ")", () -> x.change(length));
        }
        Check.due("errorPosition()", x.errorPosition(), 5);
        Check.due("undoCount()", x.undoCount(), 0);
        Check.due("change(20) of the same bytes", x.change(20), 2);
        Check.due("phase", x.guard(0, 1), 1);
        Check.due("change(0)", x.change(0), -11);
    }
}
