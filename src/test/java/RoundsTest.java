/** Promises 5 to 15: numbers of the house, its doors, rooms and guards, sightings, gaps and ways. */
public final class RoundsTest {
    // Minute by minute: guard 0 is in 0 1 2 3 0 1 2 3 0 1 2 3, guard 1 in 2 1 2 2 1 2 2 1 2 2 1 2.
    static final String HOUSE = "house 5; door 0 1; door 1 2; door 2 3; door 3 0; door 1 0 closed; door 3 4 closed;"
        + "limit 0 2; limit 1 2; guard 0 1 2 3; guard 2 2 1 phase 1;";
    private static final int NEVER = -1;

    public static void main(String[] args) {
        size();
        sizeWhileMinutesPass();
        door();
        room();
        gapsRoundTheCycle();
        guard();
        walk();
        roomOf();
        guardsIn();
        nextSeen();
        gapFrom();
        isJoined();
        distance();
        Check.end();
    }

    private static void size() {
        GuardWalks x = Check.loaded(HOUSE);
        int[] due = {5, 6, 2, 12, 0, 3, 2, 4, 4, 0};
        for (int what = 0; what < due.length; what++) {
            Check.due("size(" + what + ")", x.size(what), due[what]);
        }
        Check.dueNoSuch("size(-1)", () -> x.size(-1));
        Check.dueNoSuch("size(10)", () -> x.size(10));
        GuardWalks longest = Check.loaded("house 2;guard 0 0 0 0 0 0 0;guard 0 0 0 0 0 0 0 0;"
            + "guard 0 0 0 0 0 0 0 0 0;guard 1 1 1 1 1 1 1 1 1 1;");
        Check.due("the longest cycle", longest.size(3), 2520);
        Check.due("crossings of three guards in one room", longest.size(7), 3 * 2520);
        Check.due("worst gap of rooms that are always seen", longest.size(5), 0);
        Check.due("late rooms that are always seen", longest.size(6), 0);
        Check.due("cycle of periods 4 and 6", Check.loaded("house 1;guard 0 0 0 0;guard 0 0 0 0 0 0;").size(3), 12);
    }

    private static void sizeWhileMinutesPass() {
        GuardWalks x = Check.loaded(HOUSE);
        x.pass(5);
        Check.due("present minute", x.size(4), 5);
        Check.due("sightings of all rooms", x.size(9), 8);
    }

    private static void door() {
        GuardWalks x = Check.loaded(HOUSE);
        int[][] due = {{0, 1, 1, 1}, {1, 2, 1, 2}, {2, 3, 1, 1}, {3, 0, 1, 1}, {1, 0, 0, 1}, {3, 4, 0, 0}};
        for (int door = 0; door < due.length; door++) {
            for (int what = 0; what < 4; what++) {
                Check.due("door(" + door + ", " + what + ")", x.door(door, what), due[door][what]);
            }
        }
        Check.dueNoSuch("door(6, 0)", () -> x.door(6, 0));
        Check.dueNoSuch("door(-1, 0)", () -> x.door(-1, 0));
        Check.dueNoSuch("door(0, 4)", () -> x.door(0, 4));
        Check.dueNoSuch("door(0, -1)", () -> x.door(0, -1));
        GuardWalks y = Check.loaded("house 3;door 0 1;door 1 2;guard 0 1 0 1;guard 1 1 1;guard 1 0 phase 1;");
        Check.due("a guard counts once, only the rooms from last to first", y.door(0, 3), 2);
        Check.due("a guard that stays goes through no door", y.door(1, 3), 0);
        GuardWalks z = Check.loaded("house 3;door 0 1;door 1 2;door 2 0;guard 0 1 2;");
        Check.due("from the last room to the first one", z.door(2, 3), 1);
    }

    private static void room() {
        GuardWalks x = Check.loaded(HOUSE);
        int[][] fresh = {
            {2, 3, 1, 3, 0, NEVER, 0, 0}, {2, 2, 0, 6, 0, NEVER, 0, 0}, {99, 1, 0, 9, 0, NEVER, 0, 0},
            {99, 3, 0, 3, 0, NEVER, 0, 0}, {99, NEVER, 1, 0, 0, NEVER, 0, 0}};
        dueRooms(x, "at first", fresh);
        x.pass(8);
        // the minutes 0 to 7 have passed
        int[][] later = {
            {2, 3, 1, 3, 2, 4, 3, 3}, {2, 2, 0, 6, 4, 7, 0, 2}, {99, 1, 0, 9, 5, 6, 1, 1},
            {99, 3, 0, 3, 2, 7, 0, 3}, {99, NEVER, 1, 0, 0, NEVER, 8, 8}};
        dueRooms(x, "after 8 minutes", later);
        Check.dueNoSuch("room(5, 0)", () -> x.room(5, 0));
        Check.dueNoSuch("room(-1, 0)", () -> x.room(-1, 0));
        Check.dueNoSuch("room(0, 8)", () -> x.room(0, 8));
        Check.dueNoSuch("room(0, -1)", () -> x.room(0, -1));
    }

    private static void dueRooms(GuardWalks x, String when, int[][] due) {
        for (int room = 0; room < due.length; room++) {
            for (int what = 0; what < due[room].length; what++) {
                Check.due("room(" + room + ", " + what + ") " + when, x.room(room, what), due[room][what]);
            }
        }
    }

    private static void gapsRoundTheCycle() {
        GuardWalks x = Check.loaded("house 2;door 0 1;guard 0 1 1 0 0 0 1 1;");
        // room 0 is unseen at 1 2 and at 6 7, room 1 at 0 and at 3 4 5
        Check.due("gap on a tie", x.room(0, 1), 2);
        Check.due("the first stretch on a tie", x.gapFrom(0), 1);
        Check.due("gap", x.room(1, 1), 3);
        Check.due("its stretch", x.gapFrom(1), 3);
        x.shift(0, 7);
        // one minute later: room 0 at 2 3 and at 7 0, room 1 at 0 1 and at 4 5 6
        Check.due("gap on a tie, round the end", x.room(0, 1), 2);
        Check.due("the stretch round the end begins at 7", x.gapFrom(0), 2);
        x.shift(0, 6);
        // two minutes later: room 0 at 3 4 and at 0 1
        Check.due("a stretch that begins at 0", x.gapFrom(0), 0);
        Check.due("gap of room 1", x.gapFrom(1), 5);
        x.shift(0, 4);
        // four minutes later: room 1 at 4 and at 7 0 1
        Check.due("a longest stretch round the end", x.gapFrom(1), 7);
        Check.due("its gap", x.room(1, 1), 3);
        GuardWalks once = Check.loaded("house 2;door 0 1;guard 0 1 1 1 1 1 1 1 1 1 phase 5;limit 0 9;limit 1 0;");
        Check.due("gap of a room seen once", once.room(0, 1), 9);
        Check.due("a gap that is not greater than the limit", once.room(0, 2), 0);
        Check.due("a gap greater than limit 0", once.room(1, 2), 1);
        Check.due("stretch round the end", once.gapFrom(0), 6);
    }

    private static void guard() {
        GuardWalks x = Check.loaded(HOUSE);
        int[][] due = {{4, 0, 0, 4}, {3, 1, 2, 2}};
        for (int guard = 0; guard < 2; guard++) {
            for (int what = 0; what < 4; what++) {
                Check.due("guard(" + guard + ", " + what + ")", x.guard(guard, what), due[guard][what]);
            }
        }
        x.pass(7);
        Check.due("room of guard 0 at minute 7", x.guard(0, 2), 3);
        Check.due("room of guard 1 at minute 7", x.guard(1, 2), 1);
        Check.dueNoSuch("guard(2, 0)", () -> x.guard(2, 0));
        Check.dueNoSuch("guard(-1, 0)", () -> x.guard(-1, 0));
        Check.dueNoSuch("guard(0, 4)", () -> x.guard(0, 4));
        Check.dueNoSuch("guard(0, -1)", () -> x.guard(0, -1));
        Check.dueNoSuch("guard(0, 0) without guards", () -> new GuardWalks().guard(0, 0));
    }

    private static void walk() {
        GuardWalks x = Check.loaded(HOUSE);
        int[][] due = {{0, 1, 2, 3, -1}, {2, 2, 1, -1, -1}};
        for (int guard = 0; guard < 2; guard++) {
            for (int step = 0; step < 5; step++) {
                Check.due("walk(" + guard + ", " + step + ")", x.walk(guard, step), due[guard][step]);
            }
        }
        Check.due("walk(0, -1)", x.walk(0, -1), -1);
        Check.due("walk(0, MIN_VALUE)", x.walk(0, Integer.MIN_VALUE), -1);
        Check.due("walk(0, MAX_VALUE)", x.walk(0, Integer.MAX_VALUE), -1);
        Check.dueNoSuch("walk(2, 0)", () -> x.walk(2, 0));
        Check.dueNoSuch("walk(-1, -1)", () -> x.walk(-1, -1));
    }

    private static void roomOf() {
        GuardWalks x = Check.loaded(HOUSE);
        int[] first = {0, 1, 2, 3, 0, 1, 2, 3, 0, 1, 2, 3};
        int[] second = {2, 1, 2, 2, 1, 2, 2, 1, 2, 2, 1, 2};
        for (int minute = 0; minute < 36; minute++) {
            Check.due("roomOf(0, " + minute + ")", x.roomOf(0, minute), first[minute % 12]);
            Check.due("roomOf(1, " + minute + ")", x.roomOf(1, minute), second[minute % 12]);
        }
        // 2147483647 is 3 modulo 4 and 1 modulo 3
        Check.due("roomOf(0, MAX_VALUE)", x.roomOf(0, Integer.MAX_VALUE), 3);
        Check.due("roomOf(1, MAX_VALUE)", x.roomOf(1, Integer.MAX_VALUE), 1);
        Check.dueNoSuch("roomOf(2, -1)", () -> x.roomOf(2, -1));
        Check.dueNoSuch("roomOf(-1, 0)", () -> x.roomOf(-1, 0));
        Check.dueIllegal("roomOf(0, -1)", () -> x.roomOf(0, -1));
    }

    private static void guardsIn() {
        GuardWalks x = Check.loaded(HOUSE);
        Check.due("guardsIn(0, 0)", x.guardsIn(0, 0), 1);
        Check.due("guardsIn(2, 0)", x.guardsIn(2, 0), 2);
        Check.due("guardsIn(1, 1)", x.guardsIn(1, 1), 3);
        Check.due("guardsIn(4, 1)", x.guardsIn(4, 1), 0);
        Check.due("guardsIn(1, MAX_VALUE)", x.guardsIn(1, Integer.MAX_VALUE), 2);
        Check.due("guardsIn(3, MAX_VALUE)", x.guardsIn(3, Integer.MAX_VALUE), 1);
        Check.dueNoSuch("guardsIn(5, -1)", () -> x.guardsIn(5, -1));
        Check.dueNoSuch("guardsIn(-1, 0)", () -> x.guardsIn(-1, 0));
        Check.dueIllegal("guardsIn(0, -1)", () -> x.guardsIn(0, -1));
        Check.due("four guards", Check.loaded("house 1;guard 0;guard 0;guard 0;guard 0;").guardsIn(0, 9), 15);
    }

    private static void nextSeen() {
        GuardWalks x = Check.loaded(HOUSE);
        Check.due("nextSeen(0, 0)", x.nextSeen(0, 0), 0);
        Check.due("nextSeen(0, 1)", x.nextSeen(0, 1), 4);
        Check.due("nextSeen(1, 10)", x.nextSeen(1, 10), 10);
        Check.due("nextSeen(1, 11)", x.nextSeen(1, 11), 13);
        Check.due("nextSeen(3, 1000000)", x.nextSeen(3, 1000000), 1000003);
        Check.due("nextSeen(4, 0)", x.nextSeen(4, 0), -1);
        Check.dueNoSuch("nextSeen(5, -1)", () -> x.nextSeen(5, -1));
        Check.dueNoSuch("nextSeen(-1, 0)", () -> x.nextSeen(-1, 0));
        Check.dueIllegal("nextSeen(0, -1)", () -> x.nextSeen(0, -1));
        Check.dueIllegal("nextSeen(0, 1000001)", () -> x.nextSeen(0, 1000001));
    }

    private static void gapFrom() {
        GuardWalks x = Check.loaded(HOUSE);
        int[] due = {1, 2, 1, 0, -1};
        for (int room = 0; room < 5; room++) {
            Check.due("gapFrom(" + room + ")", x.gapFrom(room), due[room]);
        }
        Check.due("gapFrom of gaps of one minute", Check.loaded("house 2;door 0 1;guard 0 1 0 1;").gapFrom(1), 0);
        Check.due("gapFrom of a room that is always seen", Check.loaded("house 1;guard 0 0;").gapFrom(0), -1);
        Check.dueNoSuch("gapFrom(5)", () -> x.gapFrom(5));
        Check.dueNoSuch("gapFrom(-1)", () -> x.gapFrom(-1));
    }

    private static void isJoined() {
        GuardWalks x = Check.loaded(HOUSE);
        Check.due("isJoined(0, 1)", x.isJoined(0, 1), true);
        Check.due("isJoined(0, 3)", x.isJoined(0, 3), true);
        Check.due("isJoined(3, 0)", x.isJoined(3, 0), true);
        Check.due("isJoined(0, 2)", x.isJoined(0, 2), false);
        Check.due("isJoined(3, 4)", x.isJoined(3, 4), false);
        Check.due("isJoined(2, 2)", x.isJoined(2, 2), false);
        x.openDoor(5);
        Check.due("isJoined(4, 3) through the opened door", x.isJoined(4, 3), true);
        x.openDoor(4);
        x.closeDoor(4);
        Check.due("isJoined(0, 1) through the other door", x.isJoined(0, 1), true);
        Check.dueNoSuch("isJoined(5, 0)", () -> x.isJoined(5, 0));
        Check.dueNoSuch("isJoined(0, 5)", () -> x.isJoined(0, 5));
        Check.dueNoSuch("isJoined(-1, 0)", () -> x.isJoined(-1, 0));
        Check.dueNoSuch("isJoined(0, -1)", () -> x.isJoined(0, -1));
    }

    private static void distance() {
        GuardWalks x = Check.loaded(HOUSE);
        Check.due("distance(0, 0)", x.distance(0, 0), 0);
        Check.due("distance(0, 1)", x.distance(0, 1), 1);
        Check.due("distance(1, 3)", x.distance(1, 3), 2);
        Check.due("distance(0, 4)", x.distance(0, 4), -1);
        Check.due("distance(4, 4)", x.distance(4, 4), 0);
        x.openDoor(5);
        Check.due("distance(1, 4)", x.distance(1, 4), 3);
        Check.due("distance(4, 1)", x.distance(4, 1), 3);
        Check.dueNoSuch("distance(5, 0)", () -> x.distance(5, 0));
        Check.dueNoSuch("distance(0, 5)", () -> x.distance(0, 5));
        Check.dueNoSuch("distance(0, -1)", () -> x.distance(0, -1));
        StringBuilder row = new StringBuilder("house 12;");
        for (int room = 0; room < 11; room++) {
            row.append("door ").append(room).append(' ').append(room + 1).append(';');
        }
        Check.due("distance from end to end of 12 rooms", Check.loaded(row.toString()).distance(11, 0), 11);
    }
}
