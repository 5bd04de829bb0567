/** The edges that "Rooms, doors, walks" names: a method for each sentence. */
public final class HouseEdgesTest {
    private static final String ROW = "house 4;door 0 1;door 2 1;door 2 3 closed;";

    public static void main(String[] args) {
        numberOfRooms();
        numberOfDoors();
        numberOfGuards();
        numberedFromZero();
        minutesFromZero();
        twoDifferentRooms();
        openOrClosed();
        severalDoorsBetweenTheSameRooms();
        joinedByAnOpenDoor();
        limits();
        lengthOfAWalk();
        roomsThatComeSeveralTimes();
        phases();
        periodIsTheNumberOfRooms();
        eachRoomAndTheOneBefore();
        firstRoomAndLastOne();
        roomAtAMinute();
        cycleIsTheLeastMultiple();
        cycleWithoutGuards();
        Check.end();
    }

    private static void numberOfRooms() {
        Check.sentence("There are 1 to 12 rooms");
        GuardWalks one = Check.loaded("house 1;");
        Check.due("rooms", one.size(0), 1);
        Check.due("room(0, 0)", one.room(0, 0), 99);
        Check.dueNoSuch("room(1, 0)", () -> one.room(1, 0));
        GuardWalks twelve = Check.loaded("house 12;");
        Check.due("rooms", twelve.size(0), 12);
        Check.due("room(11, 0)", twelve.room(11, 0), 99);
        Check.dueNoSuch("room(12, 0)", () -> twelve.room(12, 0));
        Check.dueLoadError("house 0;", 2, 6);
        Check.dueLoadError("house 13;", 2, 6);
    }

    private static void numberOfDoors() {
        Check.sentence("at most 20 doors");
        String text = "house 12;" + "door 0 1;".repeat(19) + "door 10 11;";
        GuardWalks x = Check.loaded(text);
        Check.due("doors", x.size(1), 20);
        Check.due("open doors", x.size(8), 20);
        Check.due("door(19, 0)", x.door(19, 0), 10);
        Check.due("door(19, 1)", x.door(19, 1), 11);
        Check.dueNoSuch("door(20, 0)", () -> x.door(20, 0));
        Check.due("closeDoor(19)", x.closeDoor(19), 19);
        Check.due("openDoor(19)", x.openDoor(19), 20);
        Check.dueLoadError(text + "door 0 1;", 3, text.length());
        Check.due("no doors", new GuardWalks().size(1), 0);
    }

    private static void numberOfGuards() {
        Check.sentence("at most 4 guards");
        String text = "house 2;" + "guard 0;".repeat(3) + "guard 1;";
        GuardWalks x = Check.loaded(text);
        Check.due("guards", x.size(2), 4);
        Check.due("roomOf(3, 0)", x.roomOf(3, 0), 1);
        Check.due("guardsIn(0, 0)", x.guardsIn(0, 0), 7);
        Check.due("guardsIn(1, 0)", x.guardsIn(1, 0), 8);
        Check.dueNoSuch("roomOf(4, 0)", () -> x.roomOf(4, 0));
        Check.dueLoadError(text + "guard 0;", 3, text.length());
        Check.due("no guards", new GuardWalks().size(2), 0);
    }

    private static void numberedFromZero() {
        Check.sentence("each numbered from 0");
        GuardWalks x = Check.loaded("house 2;door 1 0;limit 0 5;guard 1;");
        Check.due("room(0, 0)", x.room(0, 0), 5);
        Check.due("door(0, 0)", x.door(0, 0), 1);
        Check.due("guard(0, 2)", x.guard(0, 2), 1);
        Check.dueNoSuch("room(-1, 0)", () -> x.room(-1, 0));
        Check.dueNoSuch("room(2, 0)", () -> x.room(2, 0));
        Check.dueNoSuch("door(-1, 0)", () -> x.door(-1, 0));
        Check.dueNoSuch("door(1, 0)", () -> x.door(1, 0));
        Check.dueNoSuch("guard(-1, 0)", () -> x.guard(-1, 0));
        Check.dueNoSuch("guard(1, 0)", () -> x.guard(1, 0));
        Check.dueLoadError("house 2;door 2 0;", 2, 13);
        Check.dueLoadError("house 2;door 0 2;", 2, 15);
        Check.dueLoadError("house 2;guard 2;", 2, 14);
        Check.dueLoadError("house 2;limit 2 0;", 2, 14);
    }

    private static void minutesFromZero() {
        Check.sentence("Time is counted in minutes from 0");
        GuardWalks x = Check.loaded(ROW + "guard 0 1;");
        Check.due("present minute", x.size(4), 0);
        Check.due("roomOf(0, 0)", x.roomOf(0, 0), 0);
        Check.due("roomOf(0, 1)", x.roomOf(0, 1), 1);
        Check.due("nextSeen(0, 0)", x.nextSeen(0, 0), 0);
        Check.dueIllegal("roomOf(0, -1)", () -> x.roomOf(0, -1));
        Check.dueIllegal("guardsIn(0, -1)", () -> x.guardsIn(0, -1));
        Check.dueIllegal("nextSeen(0, -1)", () -> x.nextSeen(0, -1));
    }

    private static void twoDifferentRooms() {
        Check.sentence("A door joins two different rooms");
        Check.dueLoadError("house 3;door 0 0;", 4, 15);
        Check.dueLoadError("house 3;door 2 2 closed;", 4, 15);
        Check.dueLoadError("house 3;door 2 02;", 4, 15);
        GuardWalks x = Check.loaded("house 12;door 11 0;door 1 11;");
        Check.due("isJoined(0, 11)", x.isJoined(0, 11), true);
        Check.due("isJoined(11, 1)", x.isJoined(11, 1), true);
    }

    private static void openOrClosed() {
        Check.sentence("and is open or closed");
        GuardWalks x = Check.loaded("house 2;door 0 1;door 0 1 closed;");
        Check.due("door(0, 2)", x.door(0, 2), 1);
        Check.due("door(1, 2)", x.door(1, 2), 0);
        Check.due("open doors", x.size(8), 1);
    }

    private static void severalDoorsBetweenTheSameRooms() {
        Check.sentence("there can be several ones between the same rooms");
        GuardWalks x = Check.loaded("house 3;door 0 1;door 0 1;door 1 0;door 0 1 closed;");
        Check.due("doors", x.size(1), 4);
        Check.due("open doors", x.size(8), 3);
        x.closeDoor(0);
        x.closeDoor(1);
        Check.due("isJoined(0, 1) by the last one that is open", x.isJoined(0, 1), true);
        x.closeDoor(2);
        Check.due("isJoined(0, 1) by none", x.isJoined(0, 1), false);
        x.openDoor(3);
        Check.due("isJoined(0, 1) by the other one", x.isJoined(0, 1), true);
    }

    private static void joinedByAnOpenDoor() {
        Check.sentence("Two rooms are joined if there is an open door between them");
        GuardWalks x = Check.loaded(ROW);
        Check.due("isJoined(0, 1)", x.isJoined(0, 1), true);
        Check.due("isJoined(1, 0)", x.isJoined(1, 0), true);
        Check.due("isJoined(1, 2)", x.isJoined(1, 2), true);
        Check.due("isJoined(0, 2) by two doors", x.isJoined(0, 2), false);
        Check.due("isJoined(2, 3) by a closed door", x.isJoined(2, 3), false);
        Check.due("isJoined(3, 2) by a closed door", x.isJoined(3, 2), false);
    }

    private static void limits() {
        Check.sentence("A room has a limit (0 to 99)");
        GuardWalks x = Check.loaded("house 3;limit 0 0;limit 1 99;limit 2 1;");
        Check.due("room(0, 0)", x.room(0, 0), 0);
        Check.due("room(1, 0)", x.room(1, 0), 99);
        Check.due("room(2, 0)", x.room(2, 0), 1);
        Check.dueLoadError("house 3;limit 0 100;", 2, 16);
        x.setLimit(0, 99);
        x.setLimit(1, 0);
        Check.due("room(0, 0)", x.room(0, 0), 99);
        Check.due("room(1, 0)", x.room(1, 0), 0);
        Check.dueIllegal("setLimit(0, 100)", () -> x.setLimit(0, 100));
        Check.dueIllegal("setLimit(0, -1)", () -> x.setLimit(0, -1));
    }

    private static void lengthOfAWalk() {
        Check.sentence("a walk, a row of 1 to 10 rooms");
        GuardWalks x = Check.loaded("house 2;guard 1;guard 0 0 0 0 0 0 0 0 0 0;");
        Check.due("one room", x.guard(0, 0), 1);
        Check.due("walk(0, 0)", x.walk(0, 0), 1);
        Check.due("walk(0, 1)", x.walk(0, 1), -1);
        Check.due("ten rooms", x.guard(1, 0), 10);
        Check.due("walk(1, 9)", x.walk(1, 9), 0);
        Check.due("walk(1, 10)", x.walk(1, 10), -1);
        Check.dueLoadError("house 2;guard;", 1, 13);
        Check.dueLoadError("house 2;guard phase 0;", 1, 14);
        Check.dueLoadError("house 2;guard 0 0 0 0 0 0 0 0 0 0 0;", 3, 34);
        Check.due("ten rooms in a change", Check.change(x, "walk 0 1 1 1 1 1 1 1 1 1 1"), 10);
        Check.due("guard(0, 0)", x.guard(0, 0), 10);
        Check.dueChangeError("house 2;guard 1;", "walk 0", 1, 6);
        Check.dueChangeError("house 2;guard 1;", "walk 0 1 1 1 1 1 1 1 1 1 1 1", 3, 27);
    }

    private static void roomsThatComeSeveralTimes() {
        Check.sentence("a room can come several times");
        GuardWalks x = Check.loaded(ROW + "guard 0 1 0 0 1 2 1 1;");
        Check.due("period", x.guard(0, 0), 8);
        Check.due("different rooms", x.guard(0, 3), 3);
        Check.due("minutes at which room 1 is seen", x.room(1, 3), 4);
        Check.due("minutes at which room 0 is seen", x.room(0, 3), 3);
    }

    private static void phases() {
        Check.sentence("a phase, from 0 to the period less 1");
        GuardWalks x = Check.loaded(ROW + "guard 0 1 phase 0;guard 0 1 1 phase 2;guard 3 phase 0;guard 0 0 0 0 0 0 0 0 0 1 phase 9;");
        Check.due("phase 0", x.guard(0, 1), 0);
        Check.due("phase 2", x.guard(1, 1), 2);
        Check.due("phase 9", x.guard(3, 1), 9);
        Check.due("room of phase 9", x.roomOf(3, 0), 1);
        Check.dueLoadError("house 4;guard 0 phase 1;", 2, 22);
        Check.dueLoadError("house 4;guard 0 0 0 phase 3;", 2, 26);
        Check.dueLoadError("house 4;guard 0 0 0 0 0 0 0 0 0 0 phase 10;", 2, 40);
        x.shift(1, 0);
        x.shift(1, 2);
        Check.due("phase after shift", x.guard(1, 1), 2);
        Check.dueIllegal("shift(1, 3)", () -> x.shift(1, 3));
        Check.dueIllegal("shift(1, -1)", () -> x.shift(1, -1));
        Check.dueIllegal("shift(2, 1) of one room", () -> x.shift(2, 1));
        Check.dueChangeError("house 2;guard 1 1;", "walk 0 0 phase 1", 2, 15);
    }

    private static void periodIsTheNumberOfRooms() {
        Check.sentence("the period is the number of rooms of the walk");
        GuardWalks x = Check.loaded(ROW + "guard 0 1 0 1;guard 2 2 2;");
        Check.due("a walk that repeats itself", x.guard(0, 0), 4);
        Check.due("a walk that stays", x.guard(1, 0), 3);
        Check.due("cycle", x.size(3), 12);
    }

    private static void eachRoomAndTheOneBefore() {
        Check.sentence("Each room of a walk is the same as the one before or joined to it");
        Check.due("the same and joined ones", Check.loaded(ROW + "guard 0 0 1 1 2 2 1;").guard(0, 0), 7);
        Check.dueLoadError("house 4;guard 0 1;", 4, 16);
        Check.dueLoadError(ROW + "guard 2 3;", 4, ROW.length() + 8);
        Check.dueLoadError(ROW + "guard 1 0 2 1;", 4, ROW.length() + 10);
        Check.dueLoadError(ROW + "guard 0 1 2 1 1 0 1 0 1 3;", 4, ROW.length() + 24);
        Check.dueLoadError("house 2;guard 0 1;door 0 1;", 4, 16);
    }

    private static void firstRoomAndLastOne() {
        Check.sentence("and so is the first one to the last one");
        Check.due("the same", Check.loaded(ROW + "guard 0 1 2 1 0;").guard(0, 0), 5);
        Check.due("joined", Check.loaded(ROW + "guard 0 1 2 1;").guard(0, 0), 4);
        Check.due("joined the other way", Check.loaded(ROW + "guard 1 0;").guard(0, 0), 2);
        Check.dueLoadError(ROW + "guard 0 1 2;", 4, ROW.length() + 11);
        Check.dueLoadError(ROW + "guard 0 1 2 phase 0;", 4, ROW.length() + 12);
        Check.due("joined by a third door", Check.loaded(ROW + "door 0 2;guard 0 1 2;").guard(0, 0), 3);
    }

    private static void roomAtAMinute() {
        Check.sentence("the room of the walk with the number (t + phase) modulo period, counted from 0");
        GuardWalks x = Check.loaded(ROW + "guard 0 1 2 1 1 phase 4;");
        int[] due = {1, 0, 1, 2, 1, 1, 0, 1, 2, 1, 1};
        for (int minute = 0; minute < due.length; minute++) {
            Check.due("roomOf(0, " + minute + ")", x.roomOf(0, minute), due[minute]);
        }
        // 2147483647 is 2 modulo 5: with the phase that is 6, and 1 modulo 5
        Check.due("roomOf(0, MAX_VALUE)", x.roomOf(0, Integer.MAX_VALUE), 1);
        Check.due("guardsIn(1, MAX_VALUE)", x.guardsIn(1, Integer.MAX_VALUE), 1);
        // 2147483644 is 4 modulo 5: with the phase that is 8, and 3 modulo 5; one minute earlier it is 2
        Check.due("roomOf(0, MAX_VALUE - 3)", x.roomOf(0, Integer.MAX_VALUE - 3), 1);
        Check.due("roomOf(0, MAX_VALUE - 4)", x.roomOf(0, Integer.MAX_VALUE - 4), 2);
    }

    private static void cycleIsTheLeastMultiple() {
        Check.sentence("the least common multiple of all periods");
        int[][] rows = {{1, 1, 1}, {1, 10, 10}, {2, 4, 4}, {4, 6, 12}, {6, 10, 30}, {7, 7, 7}, {8, 9, 72}, {9, 6, 18}};
        for (int[] row : rows) {
            String text = "house 1;guard" + " 0".repeat(row[0]) + ";guard" + " 0".repeat(row[1]) + ";";
            Check.due("cycle of the periods " + row[0] + " and " + row[1], Check.loaded(text).size(3), row[2]);
        }
        GuardWalks x = Check.loaded("house 1;guard" + " 0".repeat(7) + ";guard" + " 0".repeat(8) + ";guard" + " 0".repeat(9)
            + ";guard" + " 0".repeat(10) + ";");
        Check.due("the longest cycle", x.size(3), 2520);
        Check.due("minutes of it at which room 0 is seen", x.room(0, 3), 2520);
    }

    private static void cycleWithoutGuards() {
        Check.sentence("1 without guards");
        GuardWalks x = Check.loaded("house 3;door 0 1;");
        Check.due("cycle", x.size(3), 1);
        Check.due("cycle of a new object", new GuardWalks().size(3), 1);
        Check.dueExactly("coverage()", x.coverage(), 0.0);
        Check.due("crossings", x.size(7), 0);
        Check.due("worst gap", x.size(5), 0);
    }
}
