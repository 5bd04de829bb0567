/** The edges that "Minutes that pass" and the promises 26 to 28 name: a method for each sentence. */
public final class MinuteEdgesTest {
    private static final String WALK = "house 3;door 0 1;guard 0 1 1 1;";

    public static void main(String[] args) {
        atFirst();
        oneSightingMore();
        seenByTwoGuards();
        lastSeenAtThePresentMinute();
        unseenRunBecomesZero();
        unseenRunBecomesLonger();
        longestRunIfLonger();
        nextMinute();
        minutesThatPass();
        sightingsInThem();
        latestMinute();
        minutesOutOfRange();
        rateAtTheFirstMinute();
        rateAsFloats();
        coverageAsDoubles();
        Check.end();
    }

    private static void dueRoom(GuardWalks x, int room, int sightings, int last, int run, int longest) {
        Check.due("sightings of room " + room, x.room(room, 4), sightings);
        Check.due("last seen, room " + room, x.room(room, 5), last);
        Check.due("unseen run of room " + room, x.room(room, 6), run);
        Check.due("longest run of room " + room, x.room(room, 7), longest);
    }

    private static void atFirst() {
        Check.sentence("At first the present minute is 0, and there are no sightings and no runs");
        GuardWalks x = Check.loaded(WALK);
        Check.due("present minute", x.size(4), 0);
        Check.due("sightings of all rooms", x.size(9), 0);
        for (int room = 0; room < 3; room++) {
            dueRoom(x, room, 0, -1, 0, 0);
        }
        x.pass(7);
        x.worstWith(0, 1);
        Check.change(x, "walk 0 1");
        Check.load(x, WALK);
        Check.due("present minute after load", x.size(4), 0);
        Check.due("sightings after load", x.size(9), 0);
        for (int room = 0; room < 3; room++) {
            dueRoom(x, room, 0, -1, 0, 0);
        }
    }

    private static void oneSightingMore() {
        Check.sentence("each room that is seen at the present minute has one sighting more");
        GuardWalks x = Check.loaded(WALK);
        x.pass(1);
        // minute 0 has passed, minute 1 has not
        Check.due("room(0, 4)", x.room(0, 4), 1);
        Check.due("room(1, 4)", x.room(1, 4), 0);
        x.pass(1);
        Check.due("room(1, 4)", x.room(1, 4), 1);
        x.pass(2);
        Check.due("room(1, 4)", x.room(1, 4), 3);
        Check.due("room(2, 4)", x.room(2, 4), 0);
        Check.due("size(9)", x.size(9), 4);
    }

    private static void seenByTwoGuards() {
        Check.sentence("one sighting more (by two guards, too)");
        GuardWalks x = Check.loaded("house 2;guard 0;guard 0;guard 1;");
        Check.due("pass(1)", x.pass(1), 2);
        Check.due("room(0, 4)", x.room(0, 4), 1);
        Check.due("size(9)", x.size(9), 2);
    }

    private static void lastSeenAtThePresentMinute() {
        Check.sentence("and was last seen at it");
        GuardWalks x = Check.loaded(WALK);
        x.pass(1);
        Check.due("room(0, 5), the first minute", x.room(0, 5), 0);
        Check.due("room(1, 5), not yet", x.room(1, 5), -1);
        x.pass(3);
        Check.due("room(0, 5)", x.room(0, 5), 0);
        Check.due("room(1, 5)", x.room(1, 5), 3);
        x.pass(1);
        Check.due("room(0, 5)", x.room(0, 5), 4);
        Check.due("room(2, 5)", x.room(2, 5), -1);
    }

    private static void unseenRunBecomesZero() {
        Check.sentence("and its unseen run becomes 0");
        GuardWalks x = Check.loaded(WALK);
        x.pass(4);
        dueRoom(x, 0, 1, 0, 3, 3);
        x.pass(1);
        dueRoom(x, 0, 2, 4, 0, 3);
        x.pass(1);
        dueRoom(x, 0, 2, 4, 1, 3);
    }

    private static void unseenRunBecomesLonger() {
        Check.sentence("the unseen run of each other room becomes one longer");
        GuardWalks x = Check.loaded(WALK);
        x.pass(1);
        dueRoom(x, 1, 0, -1, 1, 1);
        dueRoom(x, 2, 0, -1, 1, 1);
        x.pass(500);
        dueRoom(x, 2, 0, -1, 501, 501);
    }

    private static void longestRunIfLonger() {
        Check.sentence("and is its longest run if it is longer than this");
        GuardWalks x = Check.loaded("house 2;door 0 1;guard 0 1 1 0 1 1 1 0 1;");
        int[] longest = {0, 1, 2, 2, 2, 2, 3, 3, 3, 3};
        for (int minute = 0; minute < longest.length; minute++) {
            x.pass(1);
            Check.due("longest run of room 0 after " + (minute + 1) + " minutes", x.room(0, 7), longest[minute]);
        }
    }

    private static void nextMinute() {
        Check.sentence("Then the present minute becomes the next one");
        GuardWalks x = Check.loaded(WALK);
        x.pass(1);
        Check.due("size(4)", x.size(4), 1);
        Check.due("guard(0, 2)", x.guard(0, 2), 1);
        Check.due("format()", Check.formatted(x), "0 1a 2!");
        x.pass(3);
        Check.due("size(4)", x.size(4), 4);
        Check.due("guard(0, 2)", x.guard(0, 2), 0);
    }

    private static void minutesThatPass() {
        Check.sentence("minutes: 1 to 500");
        GuardWalks x = Check.loaded(WALK);
        Check.due("pass(1)", x.pass(1), 1);
        Check.due("pass(500)", x.pass(500), 500);
        Check.due("present minute", x.size(4), 501);
        Check.due("undoCount()", x.undoCount(), 2);
    }

    private static void sightingsInThem() {
        Check.sentence("Returns the sightings in them");
        GuardWalks x = Check.loaded("house 3;door 0 1;guard 0 1;guard 0;");
        Check.due("pass(1) with a meeting", x.pass(1), 1);
        Check.due("pass(1) without one", x.pass(1), 2);
        Check.due("pass(3)", x.pass(3), 4);
        Check.due("size(9)", x.size(9), 7);
        Check.due("pass(9) without guards", new GuardWalks().pass(9), 0);
    }

    private static GuardWalks at(int minute) {
        GuardWalks x = Check.loaded(WALK);
        for (int passed = 0; passed < minute; passed += 500) {
            x.pass(Math.min(500, minute - passed));
        }
        return x;
    }

    private static void latestMinute() {
        Check.sentence("-2 if the present minute would exceed 99999");
        GuardWalks x = at(99499);
        String before = Check.facts(x);
        Check.due("pass(500) to 99999", x.pass(500), 500);
        Check.due("pass(1)", x.pass(1), -2);
        x.undo();
        Check.due("facts after undo", Check.facts(x), before);
        x.pass(1);
        Check.due("pass(500) to 100000", x.pass(500), -2);
        Check.due("present minute after a refused call", x.size(4), 99500);
        Check.due("pass(499) to 99999", x.pass(499), 499);
        Check.due("present minute", x.size(4), 99999);
        Check.due("guard(0, 2) at 99999", x.guard(0, 2), 1);
    }

    private static void minutesOutOfRange() {
        Check.sentence("IllegalArgumentException if minutes is out of range");
        GuardWalks x = at(99999);
        int[] wrong = {0, -1, 501, Integer.MIN_VALUE, Integer.MAX_VALUE};
        for (int minutes : wrong) {
            Check.dueIllegal("pass(" + minutes + ") at 99999", () -> x.pass(minutes));
            Check.dueIllegal("pass(" + minutes + ") at 0", () -> new GuardWalks().pass(minutes));
        }
        Check.due("present minute", x.size(4), 99999);
    }

    private static void rateAtTheFirstMinute() {
        Check.sentence("0 at minute 0");
        GuardWalks x = Check.loaded(WALK);
        Check.dueExactly("seenRate()", x.seenRate(), 0.0f);
        x.pass(1);
        Check.dueExactly("seenRate() at 1", x.seenRate(), 1.0f);
        x.undo();
        Check.dueExactly("seenRate() at 0 again", x.seenRate(), 0.0f);
    }

    private static void rateAsFloats() {
        Check.sentence("the sightings so far of all rooms divided by the present minute, as floats");
        GuardWalks x = Check.loaded("house 4;door 0 1;guard 2;guard 3;guard 0 1;guard 0 0 1;");
        x.pass(3);
        // two rooms at each minute, and one or two of the rooms 0 and 1: 0 and 0, 1 and 0, 0 and 1
        Check.dueExactly("seenRate() at 3", x.seenRate(), 11.0f / 3.0f);
        GuardWalks late = at(99999);
        late.shift(0, 1);
        Check.dueExactly("seenRate() at 99999", late.seenRate(), 1.0f);
    }

    private static void coverageAsDoubles() {
        Check.sentence("the sightings of a cycle of all rooms divided by (rooms * cycle), as doubles");
        Check.dueExactly("coverage() of one in three", Check.loaded(WALK).coverage(), 4.0 / 12.0);
        GuardWalks x = Check.loaded("house 7;door 0 1;guard 0 1;guard 0 0 1;");
        // 0 and 0, 1 and 0, 0 and 1, 1 and 0, 0 and 0, 1 and 1
        Check.dueExactly("coverage()", x.coverage(), 9.0 / 42.0);
        x.pass(5);
        Check.dueExactly("coverage() later", x.coverage(), 9.0 / 42.0);
        Check.dueExactly("coverage() of all", Check.loaded("house 1;guard 0 0;").coverage(), 1.0);
        Check.dueExactly("coverage() of the one room at the one minute", Check.loaded("house 1;guard 0;").coverage(), 1.0);
        Check.dueExactly("coverage() of none", new GuardWalks().coverage(), 0.0);
    }
}
