import java.util.function.Consumer;

/** Promises 35 to 40: format, and going back by undo and snapshot. */
public final class BackTest {
    private static final String ROUND = "house 4;door 0 1;door 1 2;door 2 3;door 3 0;guard 0 1 2 3;guard 0 1 2 3;";

    public static void main(String[] args) {
        format();
        formattedByte();
        undoCount();
        undo();
        undoEachOperation();
        undoKeepsBufferAndErrors();
        snapshot();
        snapshotKeepsHistory();
        Check.end();
    }

    private static void format() {
        GuardWalks x = Check.loaded(RoundsTest.HOUSE);
        Check.due("format() at minute 0", Check.formatted(x), "0a! 1 2b 3 4!");
        Check.due("length", x.format(), 13);
        x.pass(1);
        Check.due("format() at minute 1", Check.formatted(x), "0! 1ab 2 3 4!");
        x.setLimit(0, 99);
        Check.due("format() with another limit", Check.formatted(x), "0 1ab 2 3 4!");
        Check.due("format() of a new object", Check.formatted(new GuardWalks()), "0!");
        GuardWalks most = Check.loaded("house 12;guard 11;guard 0;guard 11;guard 10;");
        Check.due("format() of 12 rooms", Check.formatted(most), "0b 1! 2! 3! 4! 5! 6! 7! 8! 9! 10d 11ac");
    }

    private static void formattedByte() {
        GuardWalks x = Check.loaded(RoundsTest.HOUSE);
        Check.due("formattedByte(0) before format", x.formattedByte(0), -1);
        int length = x.format();
        Check.due("formattedByte(0)", x.formattedByte(0), '0');
        Check.due("formattedByte(12)", x.formattedByte(12), '!');
        Check.due("formattedByte(13)", x.formattedByte(13), -1);
        Check.due("formattedByte(-1)", x.formattedByte(-1), -1);
        Check.due("formattedByte(MAX_VALUE)", x.formattedByte(Integer.MAX_VALUE), -1);
        x.saveSnapshot();
        x.pass(5);
        Check.due("the text after pass", Check.kept(x, length), "0a! 1 2b 3 4!");
        x.undo();
        x.restoreSnapshot();
        Check.due("the text after undo and restoreSnapshot", Check.kept(x, length), "0a! 1 2b 3 4!");
        Check.load(x, "house 1;");
        Check.due("the text after load", Check.kept(x, length), "0a! 1 2b 3 4!");
        x.format();
        Check.due("the new text", Check.kept(x, 2), "0!");
        Check.due("no more of the older text", x.formattedByte(2), -1);
    }

    private static void undoCount() {
        GuardWalks x = Check.loaded(ROUND);
        for (int i = 1; i <= 12; i++) {
            x.pass(1);
            Check.due("undoCount() after " + i + " operations", x.undoCount(), Math.min(i, 10));
        }
        x.size(3);
        x.format();
        x.bestWorst();
        x.worstWith(0, 1);
        Check.query(x, "many room = 1");
        Check.due("undoCount() after calls that are no operations", x.undoCount(), 10);
        x.undo();
        Check.due("undoCount() after undo", x.undoCount(), 9);
        Check.load(x, "house 1;");
        Check.due("undoCount() after load", x.undoCount(), 0);
    }

    private static void undo() {
        GuardWalks x = Check.loaded(ROUND);
        Check.due("undo() of nothing", x.undo(), -1);
        String[] states = new String[14];
        for (int i = 0; i < 13; i++) {
            states[i] = rooms(x);
            x.pass(i + 1);
        }
        for (int i = 12; i >= 3; i--) {
            Check.due("undo()", x.undo(), i - 3);
            Check.due("state after undo", rooms(x), states[i]);
        }
        Check.due("undo() of the eleventh operation", x.undo(), -1);
        Check.due("state", rooms(x), states[3]);
        x.shift(0, 1);
        x.shift(0, 2);
        x.undo();
        x.shift(0, 3);
        x.undo();
        Check.due("phase after undo, shift, undo", x.guard(0, 1), 1);
        Check.due("undo()", x.undo(), 0);
        Check.due("phase", x.guard(0, 1), 0);
    }

    /** The minute and the properties of the rooms, in few calls. */
    private static String rooms(GuardWalks x) {
        StringBuilder text = new StringBuilder().append(x.size(4));
        for (int room = 0; room < 2; room++) {
            for (int what = 4; what < 8; what++) {
                text.append(' ').append(x.room(room, what));
            }
        }
        return text.toString();
    }

    private static void undoEachOperation() {
        dueUndone("pass", x -> x.pass(3));
        dueUndone("shift", x -> x.shift(1, 3));
        dueUndone("adopt", GuardWalks::adopt);
        dueUndone("closeDoor", x -> x.closeDoor(4));
        dueUndone("openDoor", x -> x.openDoor(5));
        dueUndone("setLimit", x -> x.setLimit(2, 0));
        dueUndone("change", x -> Check.change(x, "walk 0 3 2 2"));
    }

    private static void dueUndone(String name, Consumer<GuardWalks> operation) {
        GuardWalks x = Check.loaded(ROUND + "door 0 2;door 1 3 closed;");
        x.pass(9);
        String before = Check.state(x);
        operation.accept(x);
        Check.due("another state after " + name, Check.state(x).equals(before), false);
        Check.due("undo() of " + name, x.undo(), 1);
        Check.due("state after undo of " + name, Check.state(x), before);
        Check.due("joined after undo of " + name, x.isJoined(0, 2), true);
        Check.due("not joined after undo of " + name, x.isJoined(1, 3), false);
    }

    private static void undoKeepsBufferAndErrors() {
        GuardWalks x = Check.loaded(ROUND);
        x.pass(1);
        Check.query(x, "many room");
        Check.feed(x, "first room > 1");
        x.undo();
        Check.due("errorPosition() after undo", x.errorPosition(), 9);
        Check.due("the buffer after undo", x.query(14), 2);
        x.saveSnapshot();
        Check.query(x, "many door");
        Check.feed(x, "first room > 2");
        x.restoreSnapshot();
        Check.due("errorPosition() after restoreSnapshot", x.errorPosition(), 5);
        Check.due("the buffer after restoreSnapshot", x.query(14), 3);
    }

    private static void snapshot() {
        GuardWalks x = Check.loaded(ROUND);
        Check.due("restoreSnapshot() of none", x.restoreSnapshot(), false);
        x.pass(3);
        x.setLimit(1, 4);
        String saved = Check.facts(x);
        x.saveSnapshot();
        x.pass(5);
        x.shift(0, 2);
        Check.change(x, "walk 1 3");
        x.closeDoor(0);
        Check.due("restoreSnapshot()", x.restoreSnapshot(), true);
        Check.due("state after restoreSnapshot", Check.facts(x), saved);
        Check.due("undoCount() after restoreSnapshot", x.undoCount(), 0);
        Check.due("undo() after restoreSnapshot", x.undo(), -1);
        x.pass(50);
        Check.due("restoreSnapshot() again", x.restoreSnapshot(), true);
        Check.due("state after restoreSnapshot again", Check.facts(x), saved);
        x.pass(2);
        x.saveSnapshot();
        x.pass(2);
        x.restoreSnapshot();
        Check.due("the newer snapshot", x.size(4), 5);
        Check.load(x, "house 1;");
        Check.due("restoreSnapshot() after load", x.restoreSnapshot(), false);
    }

    private static void snapshotKeepsHistory() {
        GuardWalks x = Check.loaded(ROUND);
        Check.due("restoreSnapshot() of none", x.restoreSnapshot(), false);
        x.pass(1);
        Check.due("undoCount() after restoreSnapshot of none", x.undoCount(), 1);
        x.restoreSnapshot();
        Check.due("undoCount() after restoreSnapshot of none", x.undoCount(), 1);
        x.saveSnapshot();
        Check.due("undoCount() after saveSnapshot", x.undoCount(), 1);
        Check.due("undo() after saveSnapshot", x.undo(), 0);
        Check.due("minute", x.size(4), 0);
        x.restoreSnapshot();
        Check.due("minute of the snapshot", x.size(4), 1);
    }
}
