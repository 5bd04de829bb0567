/** The edges that "Intruders" and the promises 23 to 25 name: a method for each sentence. */
public final class IntruderEdgesTest {
    private static final String ROW = "house 4;door 0 1;door 1 2;door 2 3;";

    public static void main(String[] args) {
        noGuardWhereItBegins();
        staying();
        goingIntoJoinedRooms();
        neverWhereAGuardIs();
        neverWhereAnyGuardIs();
        neverPassingAGuard();
        passedGuardsBarNothing();
        firstMinute();
        firstMinuteOfALaterCycle();
        firstMinuteOfTheLongestCycle();
        beginsInTheSameRoom();
        neverArriving();
        minuteOfArrival();
        roomsOfArrival();
        hidingMinutes();
        hidingForNoMinute();
        hidingWithAGuard();
        hidingRefusals();
        longestStayIsAtMostAHundred();
        longestStayOfThisMinute();
        longestStayFromNow();
        aGuardInEachRoom();
        Check.end();
    }

    private static void noGuardWhereItBegins() {
        Check.sentence("An intruder begins in a room at a minute; no guard may be there then");
        GuardWalks x = Check.loaded(ROW + "guard 0 1;");
        Check.due("arrival(0, 3, 0) with a guard", x.arrival(0, 3, 0), -1);
        Check.due("arrival(1, 3, 0) where the guard comes next", x.arrival(1, 3, 0), 2);
        Check.due("arrival(1, 3, 1) with a guard", x.arrival(1, 3, 1), -1);
        Check.due("arrival(0, 0, 0) with a guard", x.arrival(0, 0, 0), -1);
        Check.due("arrival(0, 0, 1) where the guard has gone", x.arrival(0, 0, 1), 1);
        GuardWalks last = Check.loaded("house 2;guard 0;guard 0;guard 0;guard 1;");
        Check.due("arrival with the fourth guard", last.arrival(1, 1, 0), -1);
    }

    private static void staying() {
        Check.sentence("the intruder stays");
        // room 1 is free at 3 and 4
        GuardWalks x = Check.loaded("house 3;door 0 1;door 1 2;guard 1 1 1 2 2;");
        Check.due("arrival after staying", x.arrival(0, 1, 0), 3);
        Check.due("hiding(0, 0, 2)", x.hiding(0, 0, 2), 1);
        Check.due("hiding(0, 0, 3)", x.hiding(0, 0, 3), 1 + 2);
        Check.due("hiding in a room without doors", Check.loaded("house 2;guard 1;").hiding(0, 3, 100), 1);
    }

    private static void goingIntoJoinedRooms() {
        Check.sentence("or goes into a room that is joined to this one");
        GuardWalks x = Check.loaded(ROW + "door 0 3 closed;");
        Check.due("hiding(0, 0, 1)", x.hiding(0, 0, 1), 1 + 2);
        Check.due("hiding(2, 0, 1)", x.hiding(2, 0, 1), 2 + 4 + 8);
        Check.due("arrival(0, 3, 0) by three doors", x.arrival(0, 3, 0), 3);
        x.openDoor(3);
        Check.due("arrival(0, 3, 0) by the opened door", x.arrival(0, 3, 0), 1);
        Check.due("arrival(3, 0, 0) by the opened door", x.arrival(3, 0, 0), 1);
        x.closeDoor(3);
        x.closeDoor(1);
        Check.due("arrival(0, 3, 0) with a closed door between", x.arrival(0, 3, 0), -1);
    }

    private static void neverWhereAGuardIs() {
        Check.sentence("The intruder is never in a room where a guard is");
        // the guard is in 1 at 1 and at 2, and comes from 2, not past the intruder
        GuardWalks x = Check.loaded(ROW + "guard 2 1 1;");
        Check.due("hiding(0, 0, 1)", x.hiding(0, 0, 1), 1);
        Check.due("hiding(0, 0, 2)", x.hiding(0, 0, 2), 1);
        Check.due("hiding(0, 0, 3)", x.hiding(0, 0, 3), 1 + 2);
        Check.due("staying where the guard comes", x.hiding(1, 0, 1), 1);
        Check.due("arrival(0, 1, 0)", x.arrival(0, 1, 0), 3);
        Check.due("a guard that stays between", Check.loaded(ROW + "guard 1;").arrival(0, 2, 0), -1);
    }

    private static void neverWhereAnyGuardIs() {
        Check.sentence("The intruder is never in a room where a guard is (each of four)");
        for (int guard = 0; guard < 4; guard++) {
            StringBuilder text = new StringBuilder("house 4;door 0 1;door 0 2;door 0 3;");
            for (int g = 0; g < 4; g++) {
                text.append(g == guard ? "guard 1;" : "guard 2;");
            }
            Check.due("hiding beside guard " + guard, Check.loaded(text.toString()).hiding(0, 0, 1), 1 + 8);
        }
    }

    private static void neverPassingAGuard() {
        Check.sentence("and never passes a guard (as guards pass one another)");
        GuardWalks x = Check.loaded("house 2;door 0 1;guard 0 1;");
        Check.due("arrival(1, 0, 0)", x.arrival(1, 0, 0), -1);
        Check.due("hiding(1, 0, 1)", x.hiding(1, 0, 1), 0);
        Check.due("longestStay()", x.longestStay(), 0);
        // the guard leaves 0 for 1: to go from 2 into 0 then is no passing, nor is it from 1 into 2
        GuardWalks y = Check.loaded("house 3;door 0 1;door 1 2;door 2 0;guard 0 1 2;");
        Check.due("hiding(1, 0, 1)", y.hiding(1, 0, 1), 4);
        Check.due("hiding(2, 0, 1)", y.hiding(2, 0, 1), 1 + 4);
        // with two guards that come into one room from both sides nobody gets out of it
        GuardWalks z = Check.loaded("house 3;door 0 1;door 1 2;guard 0 1;guard 2 1;");
        Check.due("hiding(1, 0, 1) between two guards", z.hiding(1, 0, 1), 0);
        // round the end of the cycle: at 3 the guard goes from 1 to 0
        GuardWalks end = Check.loaded("house 2;door 0 1;guard 0 0 0 1;");
        Check.due("hiding(0, 3, 1)", end.hiding(0, 3, 1), 0);
        Check.due("hiding(1, 2, 1) past the guard", end.hiding(1, 2, 1), 0);
        Check.due("hiding(1, 1, 1)", end.hiding(1, 1, 1), 2);
    }

    private static void passedGuardsBarNothing() {
        Check.sentence("and never passes a guard (at this minute)");
        // from 0 to 1 the guard goes at 0; from 1 to 0 an intruder may go later
        GuardWalks x = Check.loaded("house 4;door 0 1;door 1 2;door 1 3;guard 0 1 3 3 3 1;");
        Check.due("arrival(2, 0, 0)", x.arrival(2, 0, 0), 3);
        Check.due("hiding(2, 0, 1)", x.hiding(2, 0, 1), 4);
        Check.due("hiding(2, 0, 2)", x.hiding(2, 0, 2), 2 + 4);
        Check.due("hiding(2, 0, 3)", x.hiding(2, 0, 3), 1 + 2 + 4);
    }

    private static void firstMinute() {
        Check.sentence("The intruder arrives at the first minute at which this leads into the room that is wanted");
        GuardWalks x = Check.loaded(ROW + "door 0 2;");
        Check.due("arrival by the shorter way", x.arrival(0, 3, 10), 12);
        // room 1 is free at 2, 3 and 4 of 5 minutes, room 2 always
        GuardWalks y = Check.loaded("house 4;door 0 1;door 1 2;door 1 3;guard 1 1 3 3 3;");
        Check.due("arrival(0, 2, 0)", y.arrival(0, 2, 0), 3);
        Check.due("arrival(0, 2, 2)", y.arrival(0, 2, 2), 4);
        Check.due("arrival(0, 2, 4)", y.arrival(0, 2, 4), 8);
        // room 3 is free at 0 and 1, but then the guard is on the only way to it
        Check.due("arrival(2, 3, 0)", y.arrival(2, 3, 0), -1);
    }

    private static void firstMinuteOfALaterCycle() {
        Check.sentence("the first minute at which this leads into the room that is wanted (cycles later)");
        // a row from 0 to 6; the rooms 1, 3 and 5 are free at 5, 11, 17 .. alone
        GuardWalks x = Check.loaded("house 10;door 0 1;door 1 2;door 2 3;door 3 4;door 4 5;door 5 6;door 1 7;door 3 8;door 5 9;"
            + "guard 1 1 1 1 1 7;guard 3 3 3 3 3 8;guard 5 5 5 5 5 9;");
        int[] due = {5, 11, 12, 17, 18, 23, 24};
        for (int room = 0; room < due.length; room++) {
            Check.due("arrival(0, " + room + ", 5)", x.arrival(0, room, 5), due[room]);
        }
        Check.due("arrival(0, 6, 4)", x.arrival(0, 6, 4), 18);
        // 999999 is 3 modulo 6
        Check.due("arrival(6, 0, 999999)", x.arrival(6, 0, 999999), 1000014);
        Check.due("arrival(0, 7, 5), against the guard", x.arrival(0, 7, 5), -1);
    }

    private static void firstMinuteOfTheLongestCycle() {
        Check.sentence("the first minute at which this leads into the room that is wanted (once in 2520 minutes)");
        // the guards are out of room 1 together at the last minute of the cycle alone
        GuardWalks x = Check.loaded("house 4;door 0 1;door 1 2;door 1 3;guard 1 1 1 1 1 1 2;guard 1 1 1 1 1 1 1 2;"
            + "guard 1 1 1 1 1 1 1 1 2;guard 1 1 1 1 1 1 1 1 1 2;");
        Check.due("cycle", x.size(3), 2520);
        Check.due("arrival(0, 3, 0)", x.arrival(0, 3, 0), 2520);
        Check.due("arrival(0, 3, 2518)", x.arrival(0, 3, 2518), 2520);
        Check.due("arrival(0, 3, 2519)", x.arrival(0, 3, 2519), 5040);
        Check.due("arrival(0, 2, 0)", x.arrival(0, 2, 0), -1);
        // 1000000 is 2080 modulo 2520
        Check.due("arrival(3, 1, 1000000)", x.arrival(3, 1, 1000000), 1000439);
    }

    private static void beginsInTheSameRoom() {
        Check.sentence("who begins in another one (or the same) at a minute");
        GuardWalks x = Check.loaded(ROW + "guard 3 2;");
        Check.due("arrival(1, 1, 0)", x.arrival(1, 1, 0), 0);
        Check.due("arrival(1, 1, 1000000)", x.arrival(1, 1, 1000000), 1000000);
        Check.due("arrival(2, 2, 0) where the guard comes next", x.arrival(2, 2, 0), 0);
        Check.due("arrival(2, 2, 1) with the guard", x.arrival(2, 2, 1), -1);
    }

    private static void neverArriving() {
        Check.sentence("NONE if a guard is in the room of the beginning then, or the intruder can never arrive");
        GuardWalks x = Check.loaded("house 5;door 0 1;door 1 2;door 2 3;guard 2;");
        Check.due("arrival out of a guard's room", x.arrival(2, 1, 0), -1);
        Check.due("arrival in a guard's room", x.arrival(1, 2, 0), -1);
        Check.due("arrival behind a guard's room", x.arrival(1, 3, 0), -1);
        Check.due("arrival in a room without doors", x.arrival(1, 4, 0), -1);
        Check.due("arrival out of a room without doors", x.arrival(4, 1, 0), -1);
        Check.due("arrival past a guard on the only way", Check.loaded("house 3;door 0 1;door 1 2;guard 0 1;").arrival(1, 0, 0), -1);
    }

    private static void minuteOfArrival() {
        Check.sentence("minute: 0 to 1000000 (arrival)");
        GuardWalks x = Check.loaded(ROW + "guard 0 0 1;");
        Check.due("arrival(3, 2, 0)", x.arrival(3, 2, 0), 1);
        // 1000000 is 1 modulo 3
        Check.due("arrival(2, 1, 1000000)", x.arrival(2, 1, 1000000), 1000002);
        Check.dueIllegal("arrival(3, 2, -1)", () -> x.arrival(3, 2, -1));
        Check.dueIllegal("arrival(3, 2, 1000001)", () -> x.arrival(3, 2, 1000001));
        Check.dueIllegal("arrival(3, 2, MIN_VALUE)", () -> x.arrival(3, 2, Integer.MIN_VALUE));
        Check.dueIllegal("arrival(3, 2, MAX_VALUE)", () -> x.arrival(3, 2, Integer.MAX_VALUE));
    }

    private static void roomsOfArrival() {
        Check.sentence("NoSuchElementException if there is no such room (checked first) (arrival)");
        GuardWalks x = Check.loaded(ROW);
        int[] wrong = {-1, 4, 12, Integer.MIN_VALUE, Integer.MAX_VALUE};
        for (int room : wrong) {
            Check.dueNoSuch("arrival(" + room + ", 0, 0)", () -> x.arrival(room, 0, 0));
            Check.dueNoSuch("arrival(0, " + room + ", 0)", () -> x.arrival(0, room, 0));
            Check.dueNoSuch("arrival(" + room + ", 0, -1)", () -> x.arrival(room, 0, -1));
            Check.dueNoSuch("arrival(0, " + room + ", 1000001)", () -> x.arrival(0, room, 1000001));
        }
    }

    private static void hidingMinutes() {
        Check.sentence("minutes: 0 to 100");
        GuardWalks x = Check.loaded(ROW + "guard 3 3 2;");
        Check.due("hiding(0, 0, 100)", x.hiding(0, 0, 100), 1 + 2 + 4);
        Check.due("hiding(0, 1000000, 100)", x.hiding(0, 1000000, 100), 1 + 2);
        Check.due("hiding(0, 0, 99)", x.hiding(0, 0, 99), 1 + 2 + 4);
    }

    private static void hidingForNoMinute() {
        Check.sentence("the rooms, as a set, in which an intruder can be so many minutes later (none)");
        GuardWalks x = Check.loaded("house 12;door 0 11;");
        Check.due("hiding(0, 0, 0)", x.hiding(0, 0, 0), 1);
        Check.due("hiding(11, 0, 0)", x.hiding(11, 0, 0), 2048);
        Check.due("hiding(11, 0, 1)", x.hiding(11, 0, 1), 2049);
    }

    private static void hidingWithAGuard() {
        Check.sentence("0 if a guard is there then");
        GuardWalks x = Check.loaded(ROW + "guard 0 1;");
        Check.due("hiding(0, 0, 0)", x.hiding(0, 0, 0), 0);
        Check.due("hiding(0, 0, 1)", x.hiding(0, 0, 1), 0);
        Check.due("hiding(1, 1, 5)", x.hiding(1, 1, 5), 0);
        Check.due("hiding(1, 0, 0)", x.hiding(1, 0, 0), 2);
    }

    private static void hidingRefusals() {
        Check.sentence("if minute is not 0 to 1000000, or minutes is out of range (the room is checked first)");
        GuardWalks x = Check.loaded(ROW);
        Check.dueIllegal("hiding(0, 0, 101)", () -> x.hiding(0, 0, 101));
        Check.dueIllegal("hiding(0, 0, -1)", () -> x.hiding(0, 0, -1));
        Check.dueIllegal("hiding(0, 0, MAX_VALUE)", () -> x.hiding(0, 0, Integer.MAX_VALUE));
        Check.dueIllegal("hiding(0, 0, MIN_VALUE)", () -> x.hiding(0, 0, Integer.MIN_VALUE));
        Check.dueIllegal("hiding(0, 1000001, 0)", () -> x.hiding(0, 1000001, 0));
        Check.dueIllegal("hiding(0, -1, 0)", () -> x.hiding(0, -1, 0));
        Check.dueNoSuch("hiding(4, 0, 0)", () -> x.hiding(4, 0, 0));
        Check.dueNoSuch("hiding(-1, 0, 0)", () -> x.hiding(-1, 0, 0));
        Check.dueNoSuch("hiding(4, -1, 0)", () -> x.hiding(4, -1, 0));
        Check.dueNoSuch("hiding(4, 0, 101)", () -> x.hiding(4, 0, 101));
    }

    private static void longestStayIsAtMostAHundred() {
        Check.sentence("the greatest number of minutes, at most 100");
        Check.due("without guards", new GuardWalks().longestStay(), 100);
        Check.due("in a room that is never seen", Check.loaded("house 12;guard 0;").longestStay(), 100);
        // only by following the guard, room by room
        Check.due("behind a guard", Check.loaded("house 3;door 0 1;door 1 2;door 2 0;guard 0 1 2;").longestStay(), 100);
    }

    private static void longestStayOfThisMinute() {
        Check.sentence("0 if only this minute");
        GuardWalks x = Check.loaded("house 2;door 0 1;guard 0 1;");
        Check.due("longestStay()", x.longestStay(), 0);
        x.pass(1);
        Check.due("longestStay() a minute later", x.longestStay(), 0);
    }

    private static void longestStayFromNow() {
        Check.sentence("for which an intruder who begins at the present minute in a room of choice can go on");
        // room 1 is free at 0 to 8, room 0 at 9 alone
        GuardWalks x = Check.loaded("house 2;door 0 1;guard 0 0 0 0 0 0 0 0 0 1;");
        Check.due("longestStay() at 0", x.longestStay(), 8);
        x.pass(3);
        Check.due("longestStay() at 3", x.longestStay(), 5);
        x.pass(5);
        Check.due("longestStay() at 8", x.longestStay(), 0);
        x.pass(1);
        Check.due("longestStay() at 9", x.longestStay(), 0);
        x.pass(1);
        Check.due("longestStay() at 10", x.longestStay(), 8);
    }

    private static void aGuardInEachRoom() {
        Check.sentence("NONE if a guard is in each room now");
        GuardWalks x = Check.loaded("house 2;door 0 1;guard 0;guard 1 0;");
        Check.due("longestStay() with guards in both rooms", x.longestStay(), -1);
        x.pass(1);
        Check.due("longestStay() with both guards in one room", x.longestStay(), 0);
        Check.due("longestStay() in four rooms", Check.loaded("house 4;guard 3;guard 2;guard 1;guard 0;").longestStay(), -1);
        Check.due("longestStay() in the room that is left", Check.loaded("house 4;guard 3;guard 2;guard 1;guard 1;").longestStay(), 100);
    }
}
