/** Promises 28 to 34: the operations. */
public final class OperationsTest {
    private static final String ROUND = "house 4;door 0 1;door 1 2;door 2 3;door 3 0;door 1 0;door 0 2 closed;";

    public static void main(String[] args) {
        pass();
        passToTheEnd();
        passAfterShift();
        shift();
        adopt();
        closeDoor();
        closeDoorThatWalksNeed();
        openDoor();
        setLimit();
        change();
        changeErrors();
        changeByTheDoorsOfNow();
        changeRefusesLengths();
        Check.end();
    }

    private static void pass() {
        GuardWalks x = Check.loaded(RoundsTest.HOUSE);
        Check.due("pass(1)", x.pass(1), 2);
        Check.due("pass(2) with meetings", x.pass(2), 2);
        Check.due("pass(4)", x.pass(4), 7);
        Check.due("present minute", x.size(4), 7);
        Check.due("a long run", Check.loaded("house 1;").pass(500), 0);
        Check.due("undoCount()", x.undoCount(), 3);
        String before = Check.state(x);
        Check.dueIllegal("pass(0)", () -> x.pass(0));
        Check.dueIllegal("pass(-1)", () -> x.pass(-1));
        Check.dueIllegal("pass(501)", () -> x.pass(501));
        Check.dueIllegal("pass(MAX_VALUE)", () -> x.pass(Integer.MAX_VALUE));
        Check.due("state after refused calls", Check.state(x), before);
    }

    private static void passToTheEnd() {
        GuardWalks x = Check.loaded("house 2;guard 1;");
        for (int i = 0; i < 199; i++) {
            x.pass(500);
        }
        Check.due("pass(499) to minute 99999", x.pass(499), 499);
        Check.due("present minute", x.size(4), 99999);
        String before = Check.state(x);
        Check.due("pass(1) beyond minute 99999", x.pass(1), -2);
        Check.due("pass(500) beyond minute 99999", x.pass(500), -2);
        Check.dueIllegal("pass(501) beyond minute 99999", () -> x.pass(501));
        Check.due("state after refused calls", Check.state(x), before);
        Check.due("longest run", x.room(0, 7), 99999);
        Check.due("sightings", x.room(1, 4), 99999);
        x.undo();
        Check.due("pass(500) beyond minute 99999 from 99500", x.pass(500), -2);
        Check.due("undo count after a refused call", x.undoCount(), 9);
    }

    private static void passAfterShift() {
        GuardWalks x = Check.loaded("house 2;door 0 1;guard 0 1;");
        x.pass(1);
        x.shift(0, 1);
        Check.due("pass after shift", x.pass(1), 1);
        Check.due("sightings of room 0 at the minutes 0 and 1", x.room(0, 4), 2);
        Check.due("room 0 last seen", x.room(0, 5), 1);
        Check.due("run of room 1", x.room(1, 6), 2);
        x.pass(1);
        Check.due("run of room 1 after a sighting", x.room(1, 6), 0);
        Check.due("longest run of room 1", x.room(1, 7), 2);
        Check.due("run of room 0", x.room(0, 6), 1);
        Check.due("longest run of room 0", x.room(0, 7), 1);
    }

    private static void shift() {
        GuardWalks x = Check.loaded(ROUND + "guard 0 1 2 3;guard 0 1 2 3;");
        Check.due("shift(1, 2)", x.shift(1, 2), 1);
        Check.due("phase", x.guard(1, 1), 2);
        Check.due("worst gap", x.size(5), 1);
        Check.due("shift(0, 1)", x.shift(0, 1), 2);
        Check.due("shift to the same phase", x.shift(0, 1), 2);
        Check.due("shift to the first phase", x.shift(0, 0), 1);
        Check.due("shift to the last phase", x.shift(0, 3), 2);
        Check.due("undoCount()", x.undoCount(), 5);
        String before = Check.state(x);
        Check.dueNoSuch("shift(2, -1)", () -> x.shift(2, -1));
        Check.dueNoSuch("shift(-1, 0)", () -> x.shift(-1, 0));
        Check.dueIllegal("shift(0, 4)", () -> x.shift(0, 4));
        Check.dueIllegal("shift(0, -1)", () -> x.shift(0, -1));
        Check.due("state after refused calls", Check.state(x), before);
    }

    private static void adopt() {
        GuardWalks x = Check.loaded(ROUND + "guard 0 1 2 3 phase 3;guard 0 1 2 3 phase 3;");
        Check.due("worst gap before adopt", x.size(5), 3);
        Check.due("adopt()", x.adopt(), 2);
        Check.due("phase of guard 0", x.guard(0, 1), 0);
        Check.due("phase of guard 1", x.guard(1, 1), 2);
        Check.due("worst gap", x.size(5), x.bestWorst());
        Check.due("crossings", x.size(7), x.bestCrossings());
        Check.due("adopt() again", x.adopt(), 0);
        Check.due("undoCount()", x.undoCount(), 2);
        x.shift(1, 3);
        Check.due("adopt() with one other phase", x.adopt(), 1);
        GuardWalks none = new GuardWalks();
        Check.due("adopt() without guards", none.adopt(), 0);
        Check.due("undoCount() of an operation that changes nothing", none.undoCount(), 1);
    }

    private static void closeDoor() {
        GuardWalks x = Check.loaded("house 3;door 0 1;door 1 2;");
        Check.due("closeDoor(1)", x.closeDoor(1), 1);
        Check.due("open", x.door(1, 2), 0);
        Check.due("joined", x.isJoined(1, 2), false);
        String before = Check.state(x);
        Check.due("closeDoor(1) again", x.closeDoor(1), -2);
        Check.dueNoSuch("closeDoor(2)", () -> x.closeDoor(2));
        Check.dueNoSuch("closeDoor(-1)", () -> x.closeDoor(-1));
        Check.due("state after refused calls", Check.state(x), before);
        Check.due("closeDoor(0)", x.closeDoor(0), 0);
        Check.due("undoCount()", x.undoCount(), 2);
    }

    private static void closeDoorThatWalksNeed() {
        GuardWalks x = Check.loaded(ROUND + "guard 0 1;guard 3;");
        Check.due("closeDoor(0) with the other door", x.closeDoor(0), 4);
        String before = Check.state(x);
        Check.due("closeDoor(4), the last one of a walk", x.closeDoor(4), -3);
        Check.due("closeDoor(0) that is closed already", x.closeDoor(0), -2);
        Check.due("state after refused calls", Check.state(x), before);
        Check.due("closeDoor(2) of a guard that stays", x.closeDoor(2), 3);
        Check.due("openDoor(0)", x.openDoor(0), 4);
        Check.due("closeDoor(4) with the other door", x.closeDoor(4), 3);
        GuardWalks round = Check.loaded(ROUND + "guard 1 2 3 0;");
        Check.due("closeDoor from the last room to the first one: another door", round.closeDoor(0), 4);
        Check.due("closeDoor from the last room to the first one", round.closeDoor(4), -3);
        Check.due("closeDoor against the walk", round.closeDoor(3), -3);
    }

    private static void openDoor() {
        GuardWalks x = Check.loaded(ROUND);
        Check.due("openDoor(5)", x.openDoor(5), 6);
        Check.due("open", x.door(5, 2), 1);
        Check.due("joined", x.isJoined(2, 0), true);
        String before = Check.state(x);
        Check.due("openDoor(5) again", x.openDoor(5), -2);
        Check.dueNoSuch("openDoor(6)", () -> x.openDoor(6));
        Check.dueNoSuch("openDoor(-1)", () -> x.openDoor(-1));
        Check.due("state after refused calls", Check.state(x), before);
        Check.due("undoCount()", x.undoCount(), 1);
    }

    private static void setLimit() {
        GuardWalks x = Check.loaded(RoundsTest.HOUSE);
        Check.due("setLimit(0, 3)", x.setLimit(0, 3), 1);
        Check.due("limit", x.room(0, 0), 3);
        Check.due("setLimit(1, 1)", x.setLimit(1, 1), 2);
        Check.due("setLimit(2, 0)", x.setLimit(2, 0), 3);
        Check.due("setLimit(2, 99)", x.setLimit(2, 99), 2);
        Check.due("setLimit(2, 99) again", x.setLimit(2, 99), 2);
        Check.due("undoCount()", x.undoCount(), 5);
        String before = Check.state(x);
        Check.dueNoSuch("setLimit(5, -1)", () -> x.setLimit(5, -1));
        Check.dueNoSuch("setLimit(-1, 0)", () -> x.setLimit(-1, 0));
        Check.dueIllegal("setLimit(0, -1)", () -> x.setLimit(0, -1));
        Check.dueIllegal("setLimit(0, 100)", () -> x.setLimit(0, 100));
        Check.due("state after refused calls", Check.state(x), before);
    }

    private static void change() {
        GuardWalks x = Check.loaded(ROUND + "guard 0 1;guard 3 phase 0;");
        x.pass(3);
        Check.due("change", Check.change(x, "walk 1 0 1 2 3 phase 2"), 4);
        Check.due("period", x.guard(1, 0), 4);
        Check.due("phase", x.guard(1, 1), 2);
        Check.due("room now", x.guard(1, 2), 1);
        Check.due("different rooms", x.guard(1, 3), 4);
        Check.due("walk", x.walk(1, 3), 3);
        Check.due("door of the new walk", x.door(2, 3), 1);
        Check.due("the other guard", x.walk(0, 1), 1);
        Check.due("minute", x.size(4), 3);
        Check.due("change without phase", Check.change(x, " walk\n1 1 1 2"), 6);
        Check.due("phase that is not told", x.guard(1, 1), 0);
        Check.due("change to a shorter walk", Check.change(x, "walk 1 2"), 2);
        Check.due("no more steps", x.walk(1, 1), -1);
        Check.due("change of ten rooms", Check.change(x, "walk 0 0 1 0 1 0 1 0 1 0 1phase 9"), 10);
        Check.due("undoCount()", x.undoCount(), 5);
        Check.feed(x, "walk 1 3 and what else there is");
        Check.due("change by the first bytes", x.change(8), 10);
        Check.due("walk by the first bytes", x.walk(1, 0), 3);
        Check.due("buffer after change", x.feed(0, 0, 0, 0, 0), 20);
    }

    private static void error(String text, int code, int position) {
        Check.dueChangeError(ROUND + "limit 0 7;guard 0 1 phase 1;guard 3;", text, code, position);
    }

    private static void changeErrors() {
        error("", 1, 0);
        error("guard 0 1", 1, 0);
        error("walk", 1, 4);
        error("walk 2 0", 2, 5);
        error("walk phase", 1, 5);
        error("walk 1", 1, 6);
        error("walk 1 ", 1, 7);
        error("walk 1 phase 0", 1, 7);
        error("walk 1 4", 2, 7);
        error("walk 1 0 2", 4, 9);
        error("walk 1 0 4", 2, 9);
        error("walk 1 0 1 2", 4, 12);
        error("walk 1 0 1 2 \n", 4, 14);
        error("walk 1 0 1 2 phase 0", 4, 13);
        error("walk 1 0 1 2 ;", 1, 13);
        error("walk 1 0 1 ;", 1, 11);
        error("walk 1 0 1 walk", 1, 11);
        error("walk 1 0 1 phase", 1, 16);
        error("walk 1 0 1 phase 2", 2, 17);
        error("walk 1 0 1 phase 1 1", 1, 19);
        error("walk 1 0 1 phase 1;", 1, 18);
        error("walk 1 0 0 0 0 0 0 0 0 0 0 0", 3, 27);
        error("walk 1 0 0 0 0 0 0 0 0 0 0 2", 3, 27);
        error("walk 1 0 0 0 0 0 0 0 0 0 0 4", 2, 27);
    }

    private static void changeByTheDoorsOfNow() {
        GuardWalks x = Check.loaded(ROUND + "guard 0;");
        Check.due("change through a closed door", Check.change(x, "walk 0 0 2"), -14);
        x.openDoor(5);
        Check.due("change through the opened door", Check.change(x, "walk 0 0 2"), 2);
        Check.due("closeDoor of the new walk", x.closeDoor(5), -3);
        x.undo();
        Check.due("closeDoor after undo", x.closeDoor(5), 5);
        Check.due("change through the closed door", Check.change(x, "walk 0 0 2"), -14);
        GuardWalks none = new GuardWalks();
        Check.due("change without guards", Check.change(none, "walk 0 0"), -12);
    }

    private static void changeRefusesLengths() {
        GuardWalks x = Check.loaded(ROUND + "guard 0 1;");
        Check.feed(x, "walk 0 3");
        String before = Check.state(x);
        Check.dueIllegal("change(-1)", () -> x.change(-1));
        Check.dueIllegal("change(21)", () -> x.change(21));
        Check.dueIllegal("change(MAX_VALUE)", () -> x.change(Integer.MAX_VALUE));
        Check.due("state after refused calls", Check.state(x), before);
        Check.due("change(20) after refused calls", x.change(20), 1);
    }
}
