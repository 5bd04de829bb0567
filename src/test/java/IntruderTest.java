/** Promises 23 to 27: intruders, coverage and the rate of sightings. */
public final class IntruderTest {
    // One guard walks to and fro in a row of three rooms: 0 1 2 1.
    private static final String ROW = "house 3;door 0 1;door 1 2;guard 0 1 2 1;";

    public static void main(String[] args) {
        arrival();
        arrivalNeverPasses();
        arrivalAfterWaiting();
        arrivalLate();
        hiding();
        longestStay();
        coverage();
        seenRate();
        Check.end();
    }

    private static void arrival() {
        GuardWalks x = Check.loaded("house 5;door 0 1;door 1 2;door 2 3;door 3 4 closed;guard 3;");
        Check.due("arrival where it begins", x.arrival(1, 1, 7), 7);
        Check.due("arrival two rooms away", x.arrival(0, 2, 5), 7);
        Check.due("arrival in a room that is always seen", x.arrival(0, 3, 0), -1);
        Check.due("arrival behind a closed door", x.arrival(0, 4, 0), -1);
        Check.due("arrival out of a room with a guard", x.arrival(3, 2, 0), -1);
        Check.due("arrival in the room itself with a guard", x.arrival(3, 3, 0), -1);
        Check.due("arrival at the last minute", x.arrival(2, 0, 1000000), 1000002);
        Check.dueNoSuch("arrival(5, 0, -1)", () -> x.arrival(5, 0, -1));
        Check.dueNoSuch("arrival(0, 5, -1)", () -> x.arrival(0, 5, -1));
        Check.dueNoSuch("arrival(-1, 0, 0)", () -> x.arrival(-1, 0, 0));
        Check.dueNoSuch("arrival(0, -1, 0)", () -> x.arrival(0, -1, 0));
        Check.dueIllegal("arrival(0, 0, -1)", () -> x.arrival(0, 0, -1));
        Check.dueIllegal("arrival(0, 0, 1000001)", () -> x.arrival(0, 0, 1000001));
        Check.due("arrival without guards", new GuardWalks().arrival(0, 0, 1000000), 1000000);
    }

    private static void arrivalNeverPasses() {
        // the guard changes the rooms each minute, and with him nobody can
        GuardWalks x = Check.loaded("house 2;door 0 1;guard 0 1;");
        Check.due("arrival past the guard", x.arrival(1, 0, 0), -1);
        Check.due("hiding from a passing guard", x.hiding(1, 0, 1), 0);
        Check.due("hiding at first", x.hiding(1, 0, 0), 2);
        // with a second door between the rooms it is no better
        GuardWalks y = Check.loaded("house 2;door 0 1;door 0 1;guard 0 1;");
        Check.due("arrival past the guard through another door", y.arrival(1, 0, 0), -1);
        // two guards come from both sides
        GuardWalks both = Check.loaded("house 3;door 0 1;door 1 2;guard 0 1;guard 2 1;");
        Check.due("arrival past one of two guards", both.arrival(1, 0, 0), -1);
        Check.due("hiding from guards on both sides", both.hiding(1, 0, 1), 0);
        // a guard that goes on behind the intruder is followed, not passed
        GuardWalks z = Check.loaded("house 3;door 0 1;door 1 2;door 2 0;guard 0 1 2;");
        Check.due("arrival behind the guard", z.arrival(2, 0, 0), 1);
        Check.due("arrival on the other side of the guard", z.arrival(1, 2, 0), 1);
        // at 0 the guard goes from 0 to 1: nobody goes from 1 to 0 then, not even by way of another minute
        Check.due("arrival against the guard", z.arrival(1, 0, 0), 2);
    }

    private static void arrivalAfterWaiting() {
        GuardWalks x = Check.loaded("house 4;door 0 1;door 1 2;door 1 3;guard 1 1 1 2;");
        // room 1 is free at the minutes 3, 7, ..; the guard goes from 2 into 1 behind them
        Check.due("arrival after waiting", x.arrival(0, 1, 0), 3);
        Check.due("arrival behind the free minute", x.arrival(0, 3, 0), 4);
        Check.due("arrival against the guard that comes", x.arrival(0, 2, 0), -1);
        Check.due("arrival from a minute of the next cycle", x.arrival(3, 0, 4), 8);
    }

    private static void arrivalLate() {
        // Guard 0 is away from room 1 at 5 modulo 6, guard 1 at 6 modulo 7: both at 41 modulo 42.
        GuardWalks x = Check.loaded("house 4;door 0 1;door 1 2;door 1 3;"
            + "guard 1 1 1 1 1 3;guard 1 1 1 1 1 1 3;");
        Check.due("arrival in the one free minute of the cycle", x.arrival(0, 2, 0), 42);
        Check.due("arrival just in time for the free minute", x.arrival(0, 2, 40), 42);
        Check.due("arrival too late for this cycle", x.arrival(0, 2, 41), 84);
        // three periods: once in 2520 minutes only, and then beyond the other room's guard
        GuardWalks y = Check.loaded("house 3;door 0 1;door 1 2;guard 1 1 1 1 1 1 1 1 2;guard 1 1 1 1 1 1 1 2;"
            + "guard 1 1 1 1 1 1 2;guard 1 1 1 1 2;");
        Check.due("arrival in the one free minute of 2520", y.arrival(0, 1, 0), 2519);
        Check.due("never into the room of all guards' resting", y.arrival(0, 2, 0), -1);
    }

    private static void hiding() {
        GuardWalks x = Check.loaded(ROW);
        Check.due("hiding(2, 0, 0)", x.hiding(2, 0, 0), 4);
        Check.due("hiding(2, 0, 1): the guard is in 1", x.hiding(2, 0, 1), 4);
        Check.due("hiding(2, 0, 2): the guard comes", x.hiding(2, 0, 2), 0);
        Check.due("hiding(1, 0, 1) past the guard or on", x.hiding(1, 0, 1), 4);
        Check.due("hiding(0, 0, 0) with a guard", x.hiding(0, 0, 0), 0);
        Check.due("hiding(0, 2, 0)", x.hiding(0, 2, 0), 1);
        Check.due("hiding(0, 2, 1)", x.hiding(0, 2, 1), 1);
        Check.due("hiding(0, 2, 2)", x.hiding(0, 2, 2), 0);
        GuardWalks free = Check.loaded("house 5;door 0 1;door 1 2;door 2 3;door 3 4;");
        Check.due("rooms after two minutes", free.hiding(1, 1000000, 2), 15);
        Check.due("rooms after 100 minutes", free.hiding(1, 0, 100), 31);
        Check.dueNoSuch("hiding(3, -1, -1)", () -> x.hiding(3, -1, -1));
        Check.dueNoSuch("hiding(-1, 0, 0)", () -> x.hiding(-1, 0, 0));
        Check.dueIllegal("hiding(0, -1, 0)", () -> x.hiding(0, -1, 0));
        Check.dueIllegal("hiding(0, 1000001, 0)", () -> x.hiding(0, 1000001, 0));
        Check.dueIllegal("hiding(0, 0, -1)", () -> x.hiding(0, 0, -1));
        Check.dueIllegal("hiding(0, 0, 101)", () -> x.hiding(0, 0, 101));
    }

    private static void longestStay() {
        GuardWalks x = Check.loaded(ROW);
        Check.due("longestStay() in the row", x.longestStay(), 1);
        x.pass(1);
        Check.due("longestStay() with the guard in the middle", x.longestStay(), 2);
        Check.due("longestStay() without guards", new GuardWalks().longestStay(), 100);
        Check.due("longestStay() with a guard in each room", Check.loaded("house 2;guard 0;guard 1;").longestStay(), -1);
        Check.due("longestStay() for this minute", Check.loaded("house 2;door 0 1;guard 0 1;").longestStay(), 0);
        Check.due("longestStay() in a room never seen", Check.loaded("house 2;guard 0;").longestStay(), 100);
    }

    private static void coverage() {
        Check.dueExactly("coverage()", Check.loaded(RoundsTest.HOUSE).coverage(), 21.0 / 60.0);
        Check.dueExactly("coverage() of a new object", new GuardWalks().coverage(), 0.0);
        Check.dueExactly("coverage() of a third", Check.loaded("house 3;guard 1;").coverage(), 1.0 / 3.0);
        Check.dueExactly("coverage() of all", Check.loaded("house 1;guard 0;guard 0;").coverage(), 1.0);
    }

    private static void seenRate() {
        GuardWalks x = Check.loaded(RoundsTest.HOUSE);
        Check.dueExactly("seenRate() at minute 0", x.seenRate(), 0.0);
        x.pass(1);
        Check.dueExactly("seenRate() at minute 1", x.seenRate(), 2.0);
        x.pass(6);
        // two rooms each minute but at 1, 2 and 6
        Check.dueExactly("seenRate() at minute 7", x.seenRate(), 11.0f / 7.0f);
        x.pass(500);
        Check.dueExactly("seenRate() at minute 507", x.seenRate(), (float) x.size(9) / 507.0f);
        Check.dueExactly("seenRate() without guards", passed(new GuardWalks()).seenRate(), 0.0);
    }

    private static GuardWalks passed(GuardWalks x) {
        x.pass(3);
        return x;
    }
}
