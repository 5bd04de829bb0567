import java.util.function.Consumer;

/** The edges that the promises 35 to 40 name, and what "Operations" says of undoing: a method for each sentence. */
public final class HistoryEdgesTest {
    private static final String HOUSE = "house 4;door 0 1;door 1 2;door 2 3;door 3 0;door 0 2;door 1 3 closed;limit 0 2;"
        + "guard 0 1 2 3;guard 0 1 2 3;";

    public static void main(String[] args) {
        tenthAndEleventhOperation();
        mostRecentFirst();
        operationsAfterUndo();
        undoRestoresEverything();
        undoBringsBackSightings();
        undoKeepsBuffer();
        undoKeepsErrorPosition();
        undoKeepsFormattedText();
        undoCountOfWhatCanBeUndone();
        nothingToUndo();
        snapshotOfEverything();
        snapshotReplacesAnEarlierOne();
        snapshotIsNoOperation();
        snapshotKeepsBufferAndText();
        restoreClearsTheHistory();
        snapshotIsKept();
        noSnapshot();
        snapshotOutlivesUndo();
        formatOfTheFirstRoom();
        formatOfGuards();
        formatOfLateRooms();
        formatWithoutLeadingZeros();
        formatOfThePresentMinute();
        formattedBytesOutOfRange();
        formattedBytesWithoutFormat();
        formattedBytesAsTheyWereThen();
        Check.end();
    }

    private static void tenthAndEleventhOperation() {
        Check.sentence("The 10 most recent operations can be undone");
        int[] operations = {9, 10, 11, 12, 20, 21, 25};
        for (int made : operations) {
            GuardWalks x = Check.loaded(HOUSE);
            for (int i = 0; i < made; i++) {
                x.setLimit(1, i);
            }
            int most = Math.min(10, made);
            Check.due("undoCount() after " + made + " operations", x.undoCount(), most);
            for (int i = 1; i <= most; i++) {
                Check.due("undo " + i + " of " + made, x.undo(), most - i);
                Check.due("limit after undo " + i, x.room(1, 0), i == made ? 99 : made - 1 - i);
            }
            Check.due("one more undo of " + made, x.undo(), -1);
            Check.due("limit after one more undo", x.room(1, 0), made <= 10 ? 99 : made - 11);
        }
    }

    private static void mostRecentFirst() {
        Check.sentence("the most recent one first");
        GuardWalks x = Check.loaded(HOUSE);
        x.pass(3);
        x.shift(0, 2);
        x.closeDoor(4);
        x.undo();
        Check.due("door(4, 2)", x.door(4, 2), 1);
        Check.due("guard(0, 1)", x.guard(0, 1), 2);
        x.undo();
        Check.due("guard(0, 1)", x.guard(0, 1), 0);
        Check.due("size(4)", x.size(4), 3);
        x.undo();
        Check.due("size(4)", x.size(4), 0);
    }

    private static void operationsAfterUndo() {
        Check.sentence("Undoes the most recent operation");
        GuardWalks x = Check.loaded(HOUSE);
        for (int i = 1; i <= 13; i++) {
            x.setLimit(1, i);
        }
        for (int i = 0; i < 4; i++) {
            x.undo();
        }
        Check.due("limit", x.room(1, 0), 9);
        for (int i = 21; i <= 23; i++) {
            x.setLimit(1, i);
        }
        Check.due("undoCount()", x.undoCount(), 9);
        int[] due = {22, 21, 9, 8, 7, 6, 5, 4, 3, 3};
        for (int i = 0; i < due.length; i++) {
            Check.due("undo " + (i + 1), x.undo(), i < 9 ? 8 - i : -1);
            Check.due("limit after undo " + (i + 1), x.room(1, 0), due[i]);
        }
    }

    private static void dueUndone(String name, Consumer<GuardWalks> operation) {
        GuardWalks x = Check.loaded(HOUSE);
        x.pass(5);
        String before = Check.state(x);
        String text = Check.formatted(x);
        operation.accept(x);
        Check.due("state after " + name + " is another one", Check.state(x).equals(before), false);
        Check.due("undo() of " + name, x.undo(), 1);
        Check.due("state after undo() of " + name, Check.state(x), before);
        Check.due("format() after undo() of " + name, Check.formatted(x), text);
        Check.due("isJoined(0, 2) after undo() of " + name, x.isJoined(0, 2), true);
        Check.due("isJoined(1, 3) after undo() of " + name, x.isJoined(1, 3), false);
        Check.due("bestPhase(1) after undo() of " + name, x.bestPhase(1), 2);
    }

    private static void undoRestoresEverything() {
        Check.sentence("Undoing restores everything that the operation changed");
        dueUndone("pass", x -> x.pass(7));
        dueUndone("shift", x -> x.shift(1, 1));
        dueUndone("adopt", GuardWalks::adopt);
        dueUndone("closeDoor", x -> x.closeDoor(4));
        dueUndone("openDoor", x -> x.openDoor(5));
        dueUndone("setLimit", x -> x.setLimit(3, 1));
        dueUndone("change", x -> Check.change(x, "walk 1 2 2 1 phase 2"));
        dueUndone("change, asked about", x -> {
            Check.change(x, "walk 0 2");
            x.bestWorst();
            x.size(5);
        });
    }

    private static void undoBringsBackSightings() {
        Check.sentence("everything that the operation changed (pass)");
        GuardWalks x = Check.loaded("house 3;door 0 1;guard 0 1 1;");
        x.pass(2);
        x.pass(500);
        x.undo();
        Check.due("minute", x.size(4), 2);
        Check.due("sightings of all rooms", x.size(9), 2);
        int[][] due = {{1, 0, 1, 1}, {1, 1, 0, 1}, {0, -1, 2, 2}};
        for (int room = 0; room < 3; room++) {
            for (int what = 0; what < 4; what++) {
                Check.due("room(" + room + ", " + (what + 4) + ")", x.room(room, what + 4), due[room][what]);
            }
        }
        x.undo();
        Check.due("last seen, at first", x.room(0, 5), -1);
        Check.dueExactly("seenRate()", x.seenRate(), 0.0);
    }

    private static void undoKeepsBuffer() {
        Check.sentence("but not the buffer");
        GuardWalks x = Check.loaded(HOUSE);
        Check.change(x, "walk 0 2");
        Check.feed(x, "first room > 1");
        x.undo();
        Check.due("feed", x.feed(0x20202020, 0x20202020, 0x20202020, 0x20202020, 0x20202020), 40);
        Check.due("query of the bytes fed before undo", x.query(40), 2);
        Check.change(x, "walk 0 2");
        x.undo();
        Check.dueIllegal("the bytes that change took", () -> x.query(1));
    }

    private static void undoKeepsErrorPosition() {
        Check.sentence("but not the error position");
        GuardWalks x = Check.loaded(HOUSE);
        Check.query(x, "many ?");
        Check.change(x, "walk 0 2");
        Check.due("errorPosition() of the change", x.errorPosition(), -1);
        x.undo();
        Check.due("errorPosition() after undo", x.errorPosition(), -1);
        x.pass(1);
        Check.query(x, "many room ?");
        x.undo();
        Check.due("errorPosition() after undo", x.errorPosition(), 10);
    }

    private static void undoKeepsFormattedText() {
        Check.sentence("and the text of format");
        GuardWalks x = Check.loaded("house 2;door 0 1;guard 0 1;");
        x.format();
        x.pass(1);
        x.format();
        x.undo();
        Check.due("the text after undo", Check.kept(x, 4), "0 1a");
    }

    private static void undoCountOfWhatCanBeUndone() {
        Check.sentence("Returns the number of operations that can be undone");
        GuardWalks x = Check.loaded(HOUSE);
        Check.due("at first", x.undoCount(), 0);
        x.pass(1);
        x.openDoor(0);
        x.closeDoor(0);
        x.format();
        x.saveSnapshot();
        x.worstWith(0, 1);
        Check.query(x, "many room = 1");
        Check.due("after one operation", x.undoCount(), 1);
        x.undo();
        Check.due("after undo", x.undoCount(), 0);
        x.undo();
        Check.due("after undo of nothing", x.undoCount(), 0);
        x.pass(1);
        Check.load(x, "house 0;");
        Check.due("after a load with an error", x.undoCount(), 1);
        Check.load(x, HOUSE);
        Check.due("after load", x.undoCount(), 0);
    }

    private static void nothingToUndo() {
        Check.sentence("NONE if there was nothing to undo");
        GuardWalks x = new GuardWalks();
        Check.due("undo()", x.undo(), -1);
        Check.due("state", Check.state(x), Check.state(new GuardWalks()));
        x.pass(4);
        Check.due("undo()", x.undo(), 0);
        Check.due("undo()", x.undo(), -1);
        Check.due("minute", x.size(4), 0);
    }

    private static void snapshotOfEverything() {
        Check.sentence("Saves a snapshot of everything that undoing restores");
        GuardWalks x = Check.loaded(HOUSE);
        x.pass(6);
        x.shift(1, 3);
        x.closeDoor(4);
        x.setLimit(2, 1);
        Check.change(x, "walk 0 3 3 2 phase 1");
        String before = Check.facts(x);
        String text = Check.formatted(x);
        x.saveSnapshot();
        x.pass(9);
        x.adopt();
        x.openDoor(4);
        x.setLimit(2, 7);
        Check.change(x, "walk 0 0");
        Check.due("restoreSnapshot()", x.restoreSnapshot(), true);
        Check.due("facts", Check.facts(x), before);
        Check.due("format()", Check.formatted(x), text);
        Check.due("isJoined(0, 2)", x.isJoined(0, 2), false);
    }

    private static void snapshotReplacesAnEarlierOne() {
        Check.sentence("It replaces an earlier snapshot");
        GuardWalks x = Check.loaded(HOUSE);
        x.pass(1);
        x.saveSnapshot();
        x.pass(1);
        x.saveSnapshot();
        x.pass(1);
        x.restoreSnapshot();
        Check.due("minute", x.size(4), 2);
        x.restoreSnapshot();
        Check.due("minute", x.size(4), 2);
    }

    private static void snapshotIsNoOperation() {
        Check.sentence("pass, shift, adopt, closeDoor, openDoor, setLimit and change are operations");
        GuardWalks x = Check.loaded(HOUSE);
        x.pass(1);
        x.saveSnapshot();
        x.pass(1);
        Check.due("undoCount()", x.undoCount(), 2);
        x.undo();
        x.undo();
        Check.due("minute", x.size(4), 0);
        Check.due("undoCount()", x.undoCount(), 0);
    }

    private static void snapshotKeepsBufferAndText() {
        Check.sentence("but not the buffer, the error position and the text of format (snapshot)");
        GuardWalks x = Check.loaded(HOUSE);
        x.saveSnapshot();
        x.pass(1);
        x.format();
        Check.query(x, "many room ?");
        Check.feed(x, "first room > 1");
        x.restoreSnapshot();
        Check.due("errorPosition()", x.errorPosition(), 10);
        Check.due("the text of minute 1", Check.kept(x, 4), "0! 1");
        Check.due("query of the bytes fed before", x.query(14), 2);
    }

    private static void restoreClearsTheHistory() {
        Check.sentence("Restores the snapshot and clears the undo history");
        GuardWalks x = Check.loaded(HOUSE);
        x.saveSnapshot();
        for (int i = 0; i < 12; i++) {
            x.pass(1);
        }
        x.restoreSnapshot();
        Check.due("undoCount()", x.undoCount(), 0);
        Check.due("undo()", x.undo(), -1);
        Check.due("minute", x.size(4), 0);
        x.pass(2);
        x.shift(0, 1);
        Check.due("undoCount() of what came then", x.undoCount(), 2);
        x.undo();
        x.undo();
        Check.due("undo()", x.undo(), -1);
        Check.due("minute", x.size(4), 0);
    }

    private static void snapshotIsKept() {
        Check.sentence("The snapshot is kept");
        GuardWalks x = Check.loaded(HOUSE);
        x.pass(4);
        x.saveSnapshot();
        for (int i = 1; i <= 3; i++) {
            x.pass(i);
            x.setLimit(1, i);
            Check.due("restoreSnapshot()", x.restoreSnapshot(), true);
            Check.due("minute", x.size(4), 4);
            Check.due("limit", x.room(1, 0), 99);
        }
    }

    private static void noSnapshot() {
        Check.sentence("false if there is no snapshot (nothing changes)");
        GuardWalks x = Check.loaded(HOUSE);
        x.pass(4);
        String before = Check.state(x);
        Check.due("restoreSnapshot()", x.restoreSnapshot(), false);
        Check.due("state", Check.state(x), before);
        x.saveSnapshot();
        Check.load(x, HOUSE);
        x.pass(2);
        Check.due("restoreSnapshot() after load", x.restoreSnapshot(), false);
        Check.due("minute", x.size(4), 2);
        Check.due("undo()", x.undo(), 0);
    }

    private static void snapshotOutlivesUndo() {
        Check.sentence("true; false if there is no snapshot");
        GuardWalks x = Check.loaded(HOUSE);
        x.pass(4);
        x.saveSnapshot();
        x.undo();
        Check.due("minute after undo", x.size(4), 0);
        Check.due("restoreSnapshot()", x.restoreSnapshot(), true);
        Check.due("minute", x.size(4), 4);
        Check.load(x, "house 0;");
        Check.due("restoreSnapshot() after a load with an error", x.restoreSnapshot(), true);
    }

    private static void formatOfTheFirstRoom() {
        Check.sentence("for each room ' ' (not before the first one), its number");
        Check.due("format() of one room", Check.formatted(Check.loaded("house 1;guard 0;")), "0a");
        Check.due("format() of two rooms", Check.formatted(Check.loaded("house 2;guard 0;guard 1;")), "0a 1b");
        Check.due("its length", Check.loaded("house 2;guard 0;guard 1;").format(), 5);
    }

    private static void formatOfGuards() {
        Check.sentence("for each guard in it, by ascending numbers, the small letter with the guard's number (a for 0)");
        Check.due("four guards in one room", Check.formatted(Check.loaded("house 1;guard 0;guard 0;guard 0;guard 0;")), "0abcd");
        Check.due("four guards in four rooms",
            Check.formatted(Check.loaded("house 4;guard 3;guard 2;guard 1;guard 0;")), "0d 1c 2b 3a");
        Check.due("without guards", Check.formatted(new GuardWalks()), "0!");
    }

    private static void formatOfLateRooms() {
        Check.sentence("then '!' if the room is late");
        GuardWalks x = Check.loaded("house 3;door 0 1;limit 0 0;limit 1 1;guard 0 1;guard 0;");
        Check.due("format()", Check.formatted(x), "0ab 1 2!");
        x.setLimit(1, 0);
        Check.due("format()", Check.formatted(x), "0ab 1! 2!");
        x.pass(1);
        Check.due("format() behind guards", Check.formatted(x), "0b 1a! 2!");
    }

    private static void formatWithoutLeadingZeros() {
        Check.sentence("Numbers have no leading zeros");
        GuardWalks x = Check.loaded("house 12;guard 9;guard 10;guard 11;guard 0;");
        Check.due("format()", Check.formatted(x), "0d 1! 2! 3! 4! 5! 6! 7! 8! 9a 10b 11c");
        Check.due("its length", x.format(), 37);
        // the longest text there is
        GuardWalks most = Check.loaded("house 12;door 10 11;limit 10 0;limit 11 0;" + "guard 10 11;".repeat(4));
        Check.due("format()", Check.formatted(most), "0! 1! 2! 3! 4! 5! 6! 7! 8! 9! 10abcd! 11!");
        Check.due("its length", most.format(), 41);
    }

    private static void formatOfThePresentMinute() {
        Check.sentence("Formats the present minute as text");
        GuardWalks x = Check.loaded("house 2;door 0 1;guard 0 1 1;");
        String[] due = {"0a 1", "0 1a", "0 1a", "0a 1"};
        for (int minute = 0; minute < due.length; minute++) {
            Check.due("format() at " + minute, Check.formatted(x), due[minute]);
            x.pass(1);
        }
    }

    private static void formattedBytesOutOfRange() {
        Check.sentence("NONE if index is out of range");
        GuardWalks x = Check.loaded("house 2;guard 0;guard 1;");
        Check.due("format()", x.format(), 5);
        int[] due = {-1, '0', 'a', ' ', '1', 'b', -1};
        for (int index = -1; index <= 5; index++) {
            Check.due("formattedByte(" + index + ")", x.formattedByte(index), due[index + 1]);
        }
        int[] wrong = {64, 600, Integer.MIN_VALUE, Integer.MAX_VALUE};
        for (int index : wrong) {
            Check.due("formattedByte(" + index + ")", x.formattedByte(index), -1);
        }
    }

    private static void formattedBytesWithoutFormat() {
        Check.sentence("or there was no such call");
        GuardWalks x = Check.loaded(HOUSE);
        Check.due("formattedByte(0)", x.formattedByte(0), -1);
        Check.due("formattedByte(-1)", x.formattedByte(-1), -1);
        Check.due("formattedByte(0) of a new object", new GuardWalks().formattedByte(0), -1);
    }

    private static void formattedBytesAsTheyWereThen() {
        Check.sentence("as it was then (also behind load, undo and restoreSnapshot)");
        GuardWalks x = Check.loaded("house 2;door 0 1;guard 0 1;");
        x.saveSnapshot();
        x.pass(1);
        x.setLimit(0, 0);
        x.format();
        String due = "0! 1a";
        Check.due("the text", Check.kept(x, 5), due);
        x.setLimit(0, 5);
        x.pass(1);
        Check.due("the text behind operations", Check.kept(x, 5), due);
        x.undo();
        x.undo();
        Check.due("the text behind undo", Check.kept(x, 5), due);
        x.restoreSnapshot();
        Check.due("the text behind restoreSnapshot", Check.kept(x, 5), due);
        Check.load(x, "house 1;");
        Check.due("the text behind load", Check.kept(x, 5), due);
        Check.due("no byte behind it", x.formattedByte(5), -1);
        x.format();
        Check.due("the new text", Check.kept(x, 2), "0!");
        Check.due("no byte of the old one", x.formattedByte(2), -1);
    }
}
