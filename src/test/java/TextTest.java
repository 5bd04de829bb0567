/** Promises 1 to 4: a new object, feed, load, errorPosition. */
public final class TextTest {
    public static void main(String[] args) {
        newObject();
        feed();
        load();
        loadTokens();
        loadErrors();
        loadErrorsOfDoors();
        loadErrorsOfWalks();
        loadReplacesEverything();
        failedLoadChangesNothing();
        loadRefusesLengths();
        errorPosition();
        Check.end();
    }

    private static void newObject() {
        GuardWalks x = new GuardWalks();
        int[] sizes = {1, 0, 0, 1, 0, 0, 1, 0, 0, 0};
        for (int what = 0; what < 10; what++) {
            Check.due("new size(" + what + ")", x.size(what), sizes[what]);
        }
        int[] room = {99, -1, 1, 0, 0, -1, 0, 0};
        for (int what = 0; what < 8; what++) {
            Check.due("new room(0, " + what + ")", x.room(0, what), room[what]);
        }
        Check.due("new errorPosition()", x.errorPosition(), -1);
        Check.due("new undoCount()", x.undoCount(), 0);
        Check.due("new restoreSnapshot()", x.restoreSnapshot(), false);
        Check.due("new formattedByte(0)", x.formattedByte(0), -1);
        Check.due("new state", Check.state(x), Check.state(Check.loaded("house 1;")));
        Check.due("NONE", GuardWalks.NONE, -1);
        Check.due("HIDDEN", GuardWalks.HIDDEN, -1000000000);
    }

    private static void feed() {
        GuardWalks x = new GuardWalks();
        for (int i = 1; i <= 30; i++) {
            Check.due("feed " + i, x.feed(0x20202020, 0x20202020, 0x20202020, 0x20202020, 0x20202020), 20L * i);
        }
        Check.due("feed beyond 600", x.feed(0, 0, 0, 0, 0), -1);
        Check.dueIllegal("load(601) after the refused feed", () -> x.load(601));
        Check.due("load of 600 blanks", x.load(600), -11);
        Check.due("position of the end of 600 blanks", x.errorPosition(), 600);
        Check.due("feed after the buffer was emptied", x.feed(0, 0, 0, 0, 0), 20);
        GuardWalks y = new GuardWalks();
        // "house 12;door 11 0;\n": the most significant byte comes first
        Check.due("feed of words", y.feed(0x686f7573, 0x65203132, 0x3b646f6f, 0x72203131, 0x20303b0a), 20);
        Check.due("load of words", y.load(20), 12);
        Check.due("door of words", y.door(0, 0), 11);
        // bytes above 127 are bytes of their own, not negative ones
        GuardWalks z = new GuardWalks();
        z.feed(0x686f7573, 0x652031ff, 0x3b000000, 0, 0);
        Check.due("load with byte 255", z.load(9), -11);
        Check.due("position of byte 255", z.errorPosition(), 7);
    }

    private static void load() {
        GuardWalks x = new GuardWalks();
        int rooms = Check.load(x, "house 12; door 0 1; door 1 0 closed; door 11 10; limit 3 7; limit 3 8; limit 11 0;"
            + "guard 0 0 1 1 phase 3; guard 5; guard 10 11 phase 0;");
        Check.due("load", rooms, 12);
        Check.due("errorPosition() after a text without error", x.errorPosition(), -1);
        Check.due("doors", x.size(1), 3);
        Check.due("guards", x.size(2), 3);
        Check.due("open doors", x.size(8), 2);
        Check.due("door(1, 0)", x.door(1, 0), 1);
        Check.due("door(1, 1)", x.door(1, 1), 0);
        Check.due("door(1, 2)", x.door(1, 2), 0);
        Check.due("the last limit counts", x.room(3, 0), 8);
        Check.due("limit 0", x.room(11, 0), 0);
        Check.due("a limit that is not told", x.room(0, 0), 99);
        Check.due("phase told", x.guard(0, 1), 3);
        Check.due("phase not told", x.guard(1, 1), 0);
        Check.due("period", x.guard(0, 0), 4);
        Check.due("walk", x.walk(0, 2), 1);
        StringBuilder most = new StringBuilder("house 3;door 0 1;door 1 2;");
        for (int door = 2; door < 20; door++) {
            most.append("door 0 2;");
        }
        Check.due("20 doors", Check.load(x, most + "guard 0 1 2 0 1 2 0 1 2 1 phase 9;guard 1;guard 1;guard 1;limit 0 99;"), 3);
        Check.due("20 doors", x.size(1), 20);
        Check.due("4 guards", x.size(2), 4);
        Check.due("10 rooms of a walk", x.guard(0, 0), 10);
        Check.due("first bytes only", x.load(Check.feed(x, "house 5;") ), 5);
        Check.feed(x, "house 2;house 9;");
        Check.due("first bytes only", x.load(8), 2);
        Check.due("the rest of the buffer is gone", x.feed(0, 0, 0, 0, 0), 20);
        x.load(0);
        Check.feed(x, "house 12;");
        Check.due("a number that goes on behind the first bytes", x.load(7), -11);
        Check.due("the end of the text is behind the first bytes", x.errorPosition(), 7);
    }

    private static void loadTokens() {
        GuardWalks x = new GuardWalks();
        Check.due("no blanks", Check.load(x, "house4;door0 1;guard0 1phase1;"), 4);
        Check.due("phase", x.guard(0, 1), 1);
        Check.due("blanks and line feeds", Check.load(x, "\n  house\n\n 3 \n;\n door\n0 \n 2 closed ; \n"), 3);
        Check.due("closed", x.door(0, 2), 0);
        Check.due("leading zeros", Check.load(x, "house 00000000000000000000000007;limit 0006 000099;"), 7);
        Check.due("limit", x.room(6, 0), 99);
        Check.due("a tab is no blank", Check.load(x, "house\t3;"), -11);
        Check.due("position of the tab", x.errorPosition(), 5);
        Check.due("a carriage return is no blank", Check.load(x, "house 3;\r\n"), -11);
        Check.due("position of the carriage return", x.errorPosition(), 8);
        Check.due("capitals are no letters", Check.load(x, "House 3;"), -11);
        Check.due("position of the capital", x.errorPosition(), 0);
        Check.due("a longer word", Check.load(x, "houses 3;"), -11);
        Check.due("a shorter word", Check.load(x, "hous 3;"), -11);
        Check.due("two words in one", Check.load(x, "house 2;door 0 1closeddoor 0 1;"), -11);
        Check.due("position of the word", x.errorPosition(), 16);
    }

    private static void loadErrors() {
        Check.dueLoadError("", 1, 0);
        Check.dueLoadError("   ", 1, 3);
        Check.dueLoadError("house", 1, 5);
        Check.dueLoadError("mouse 3;", 1, 0);
        Check.dueLoadError("housez 3;", 1, 0);
        Check.dueLoadError("house{3;", 1, 5);
        Check.dueLoadError("house`3;", 1, 5);
        Check.dueLoadError("house/3;", 1, 5);
        Check.dueLoadError("house:3;", 1, 5);
        Check.dueLoadError("house ", 1, 6);
        Check.dueLoadError("house ;", 1, 6);
        Check.dueLoadError("house 3", 1, 7);
        Check.dueLoadError("house 3 3;", 1, 8);
        Check.dueLoadError("house 0;", 2, 6);
        Check.dueLoadError("house 13;", 2, 6);
        Check.dueLoadError("house 99999999999999999999999;", 2, 6);
        Check.dueLoadError("house 4294967297;", 2, 6);
        Check.dueLoadError("house 13", 2, 6);
        Check.dueLoadError("house 3;;", 1, 8);
        Check.dueLoadError("house 3;house 3;", 1, 8);
        Check.dueLoadError("house 3;walk 0 1;", 1, 8);
        Check.dueLoadError("house 3;limit", 1, 13);
        Check.dueLoadError("house 3;limit 3 5;", 2, 14);
        Check.dueLoadError("house 3;limit 2;", 1, 15);
        Check.dueLoadError("house 3;limit 2 100;", 2, 16);
        Check.dueLoadError("house 3;limit 2 99", 1, 18);
        Check.dueLoadError("house 3;limit 2 99 5;", 1, 19);
        Check.dueLoadError("house 3;limit closed 99;", 1, 14);
    }

    private static void loadErrorsOfDoors() {
        Check.dueLoadError("house 3;door ;", 1, 13);
        Check.dueLoadError("house 3;door 3 0;", 2, 13);
        Check.dueLoadError("house 3;door 0;", 1, 14);
        Check.dueLoadError("house 3;door 0 3;", 2, 15);
        Check.dueLoadError("house 3;door 1 1;", 4, 15);
        Check.dueLoadError("house 1;door 0 0;", 4, 15);
        Check.dueLoadError("house 3;door 0 1", 1, 16);
        Check.dueLoadError("house 3;door 0 1 1;", 1, 17);
        Check.dueLoadError("house 3;door 0 1 open;", 1, 17);
        Check.dueLoadError("house 3;door 0 1 closed", 1, 23);
        Check.dueLoadError("house 3;door 0 1 closed closed;", 1, 24);
        StringBuilder doors = new StringBuilder("house 3;");
        for (int door = 0; door < 20; door++) {
            doors.append("door 0 1;");
        }
        Check.dueLoadError(doors + "door 0 0;", 3, 188);
        Check.dueLoadError(doors + "door", 3, 188);
        Check.dueLoadError(doors + "doo", 1, 188);
    }

    private static void loadErrorsOfWalks() {
        Check.dueLoadError("house 3;guard;", 1, 13);
        Check.dueLoadError("house 3;guard phase 0;", 1, 14);
        Check.dueLoadError("house 3;guard", 1, 13);
        Check.dueLoadError("house 3;guard 3;", 2, 14);
        Check.dueLoadError("house 3;guard 0 1;", 4, 16);
        Check.dueLoadError("house 3;guard 0 3;", 2, 16);
        Check.dueLoadError("house 3;door 0 1 closed;guard 0 1;", 4, 32);
        Check.dueLoadError("house 3;guard 0 1;door 0 1;", 4, 16);
        Check.dueLoadError("house 3;door 0 1;door 1 2;guard 0 1 2;", 4, 37);
        Check.dueLoadError("house 3;door 0 1;door 1 2;guard 0 1 2 phase 0;", 4, 38);
        Check.dueLoadError("house 3;door 0 1;door 1 2;guard 0 1 2 door 0 1;", 1, 38);
        Check.dueLoadError("house 3;door 0 1;door 1 2;guard 0 1 2", 1, 37);
        Check.dueLoadError("house 3;door 0 1;door 1 2;guard 0 1 2 closed;", 1, 38);
        Check.dueLoadError("house 3;door 0 1;door 1 2;guard 0 1 2 1 0 1 2 1 1 2;", 4, 51);
        Check.dueLoadError("house 3;guard 0", 1, 15);
        Check.dueLoadError("house 3;guard 0 phase;", 1, 21);
        Check.dueLoadError("house 3;guard 0 phase 1;", 2, 22);
        Check.dueLoadError("house 3;guard 0 0 phase 2;", 2, 24);
        Check.dueLoadError("house 3;guard 0 0 phase 1 1;", 1, 26);
        Check.dueLoadError("house 3;guard 0 phase 0", 1, 23);
        Check.dueLoadError("house 3;guard 0 phase 0 phase 0;", 1, 24);
        Check.dueLoadError("house 3;guard 0 0 0 0 0 0 0 0 0 0 0;", 3, 34);
        Check.dueLoadError("house 3;guard 0 0 0 0 0 0 0 0 0 0 1;", 3, 34);
        Check.dueLoadError("house 3;guard 0 0 0 0 0 0 0 0 0 0 3;", 2, 34);
        Check.dueLoadError("house 3;guard 0 0 0 0 0 0 0 0 0 0,", 1, 33);
        Check.dueLoadError("house 3;guard 0;guard 0;guard 0;guard 0;guard 0;", 3, 40);
        Check.dueLoadError("house 3;guard 0;guard 0;guard 0;guard 0;guards 0;", 1, 40);
    }

    private static void loadReplacesEverything() {
        GuardWalks x = Check.loaded("house 4; door 0 1; limit 1 5; guard 0 1 phase 1;");
        x.pass(7);
        x.setLimit(0, 3);
        x.saveSnapshot();
        x.format();
        x.worstWith(0, 0);
        Check.due("load", Check.load(x, "house 4;"), 4);
        Check.due("state after load", Check.state(x), Check.state(Check.loaded("house 4;")));
        Check.due("undo() after load", x.undo(), -1);
        Check.due("restoreSnapshot() after load", x.restoreSnapshot(), false);
        Check.due("the text of format after load", x.formattedByte(0), '0');
    }

    private static void failedLoadChangesNothing() {
        GuardWalks x = Check.loaded("house 4; door 0 1; limit 1 5; guard 0 1 phase 1;");
        x.pass(7);
        x.saveSnapshot();
        x.setLimit(0, 3);
        String before = Check.state(x);
        Check.due("failed load", Check.load(x, "house 2; door 0 1; guard 1 0 phase 2;"), -12);
        Check.due("state after a failed load", Check.state(x), before);
        Check.due("bestPhase after a failed load", x.bestPhase(0), 0);
        Check.due("undo() after a failed load", x.undo(), 1);
        Check.due("restoreSnapshot() after a failed load", x.restoreSnapshot(), true);
    }

    private static void loadRefusesLengths() {
        GuardWalks x = new GuardWalks();
        Check.dueIllegal("load(1) of an empty buffer", () -> x.load(1));
        Check.due("load(0) of an empty buffer", x.load(0), -11);
        Check.feed(x, "house 2;");
        Check.dueIllegal("load(-1)", () -> x.load(-1));
        Check.dueIllegal("load(21)", () -> x.load(21));
        Check.dueIllegal("load(MIN_VALUE)", () -> x.load(Integer.MIN_VALUE));
        Check.dueIllegal("load(MAX_VALUE)", () -> x.load(Integer.MAX_VALUE));
        Check.due("errorPosition() after refused calls", x.errorPosition(), 0);
        Check.due("load(20) after refused calls", x.load(20), 2);
    }

    private static void errorPosition() {
        GuardWalks x = new GuardWalks();
        Check.load(x, "house 3;doors");
        Check.due("position of load", x.errorPosition(), 8);
        Check.query(x, "many room = room");
        Check.due("position of a query without error", x.errorPosition(), -1);
        Check.query(x, "many room ? room");
        Check.due("position of a query", x.errorPosition(), 10);
        Check.change(x, "walk 0 0");
        Check.due("position of change", x.errorPosition(), 5);
        Check.feed(x, "house 2;");
        Check.dueIllegal("load that does not read", () -> x.load(60));
        Check.dueIllegal("query that does not read", () -> x.query(60));
        Check.dueIllegal("change that does not read", () -> x.change(60));
        Check.due("position after calls that did not read", x.errorPosition(), 5);
        x.load(8);
        Check.due("position of load without error", x.errorPosition(), -1);
        Check.load(x, "house 2; guard 0; ;");
        x.undo();
        x.restoreSnapshot();
        Check.due("position behind undo and restoreSnapshot", x.errorPosition(), 18);
    }
}
