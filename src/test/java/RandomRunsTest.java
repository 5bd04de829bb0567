import java.nio.charset.StandardCharsets;
import java.util.ArrayList;
import java.util.List;
import java.util.Random;

/** Promises 1 to 41: runs of calls by fixed seeds, each answer compared with Model's. */
public final class RandomRunsTest {
    private static final int RUNS = Integer.getInteger("runs", 150);
    private static final int FIRST = Integer.getInteger("first", 1);
    // More than 512 calls of an object are not promised; the last one here may be one of many.
    private static final int MOST_CALLS = 430;

    private static Random random;
    private static GuardWalks program;
    private static Model model;
    private static int rooms;
    private static int calls;

    public static void main(String[] args) {
        for (int seed = FIRST; seed < FIRST + RUNS; seed++) {
            random = new Random(seed);
            program = new GuardWalks();
            model = new Model();
            rooms = 1;
            calls = 0;
            boolean equal = anyCall();
            for (int attempt = 0; attempt < 6 && equal && model.size(2) == 0; attempt++) {
                equal = text(houseText(), 0);
            }
            while (equal && calls < MOST_CALLS) {
                equal = anyCall();
            }
            if (!equal) {
                System.out.println("in run " + seed + ", call " + calls);
            }
        }
        Check.end();
    }

    private interface Call {
        Object answer();
    }

    private static String answer(Call call) {
        try {
            return String.valueOf(call.answer());
        } catch (RuntimeException e) {
            return "throws." + e.getClass().getSimpleName();
        }
    }

    private static boolean same(String name, Call ofProgram, Call ofModel) {
        calls++;
        String got = answer(ofProgram);
        String want = answer(ofModel);
        Check.due(name, got, want);
        return got.equals(want);
    }

    // ---- texts

    private static int below(int bound) {
        return random.nextInt(bound);
    }

    private static boolean rarely() {
        return below(40) == 0;
    }

    private static String houseText() {
        rooms = 1 + below(below(3) == 0 ? 12 : 6);
        StringBuilder text = new StringBuilder("house " + rooms + ";");
        List<int[]> joined = new ArrayList<>();
        int doors = below(3 * rooms);
        for (int door = 0; door < doors; door++) {
            int a = below(rooms);
            int b = below(rooms);
            if (a != b || rarely()) {
                boolean closed = below(5) == 0;
                text.append("door ").append(a).append(' ').append(b).append(closed ? " closed;" : ";");
                if (!closed) {
                    joined.add(new int[] {a, b});
                }
            }
        }
        int limits = below(4);
        for (int limit = 0; limit < limits; limit++) {
            text.append("limit ").append(below(rooms)).append(' ').append(below(below(2) == 0 ? 4 : 100)).append(';');
        }
        int guards = below(5);
        int most = guards > 2 ? 5 : 10;
        for (int guard = 0; guard < guards; guard++) {
            text.append("guard").append(walkText(joined, most)).append(';');
        }
        return text.toString();
    }

    /** A walk through open doors, mostly; the way back is the way there if there is no shorter one. */
    private static String walkText(List<int[]> joined, int most) {
        List<Integer> walk = new ArrayList<>();
        walk.add(below(rooms));
        int length = 1 + below(most);
        while (walk.size() < length) {
            walk.add(neighbour(joined, walk.get(walk.size() - 1)));
        }
        for (int i = walk.size() - 2; i > 0 && walk.size() < most && below(4) > 0; i--) {
            walk.add(walk.get(i));
        }
        StringBuilder text = new StringBuilder();
        for (int room : walk) {
            text.append(' ').append(rarely() ? below(13) : room);
        }
        if (below(2) == 0) {
            text.append(" phase ").append(below(rarely() ? 12 : walk.size()));
        }
        return text.toString();
    }

    private static int neighbour(List<int[]> joined, int room) {
        List<Integer> next = new ArrayList<>();
        next.add(room);
        for (int[] pair : joined) {
            if (pair[0] == room || pair[1] == room) {
                next.add(pair[0] == room ? pair[1] : pair[0]);
            }
        }
        return next.get(below(next.size()));
    }

    private static String changeText() {
        List<int[]> joined = new ArrayList<>();
        for (int door = 0; door < model.size(1); door++) {
            if (model.door(door, 2) == 1) {
                joined.add(new int[] {model.door(door, 0), model.door(door, 1)});
            }
        }
        rooms = model.size(0);
        return "walk " + below(Math.max(1, model.size(2)) + (rarely() ? 1 : 0)) + walkText(joined, model.size(2) > 2 ? 5 : 10);
    }

    private static final String[] PROPERTIES = {"room", "doors", "limit", "gap", "never", "late", "seen", "guards",
        "sightings", "run", "longest"};

    private static String value() {
        int kind = below(4);
        return kind == 0 ? String.valueOf(below(5)) : kind == 1 ? String.valueOf(below(rarely() ? 11000 : 30))
            : PROPERTIES[below(PROPERTIES.length)];
    }

    private static String test(int depth) {
        int kind = below(depth > 8 ? 2 : 7);
        switch (kind) {
            case 2: return "not " + test(depth + 1);
            case 3: return "(" + test(depth + 1) + ")";
            case 4: return test(depth + 1) + " and " + test(depth + 1);
            case 5: return test(depth + 1) + " or " + test(depth + 1);
            default: return value() + " " + "<=>".charAt(below(3)) + " " + value();
        }
    }

    private static final String[] PIECES = {"house", "door", "guard", "limit", "phase", "closed", ";", "walk", "many", "first",
        "not", "(", ")", "and", "or", "0", "1", "12", "99", "100", "9999", "10000", "00007", "99999999999", "=", "<", ">", " ",
        "\n", "x", "\t", "\u00e9", "\u0000", "gap", "room"};

    /** The text itself, or with a piece put in, taken out or put over another one. */
    private static String spoiled(String text) {
        if (below(3) > 0 || text.isEmpty()) {
            return text;
        }
        String piece = PIECES[below(PIECES.length)];
        int from = below(text.length() + 1);
        int to = Math.min(text.length(), from + below(8));
        switch (below(4)) {
            case 0: return text.substring(0, from) + " " + piece + " " + text.substring(from);
            case 1: return text.substring(0, from) + text.substring(to);
            case 2: return text.substring(0, from) + piece + text.substring(to);
            default: return text.substring(0, from);
        }
    }

    private static boolean feed(String text) {
        byte[] bytes = text.getBytes(StandardCharsets.ISO_8859_1);
        boolean equal = true;
        for (int from = 0; from < bytes.length; from += 20) {
            int[] words = new int[5];
            for (int i = 0; i < 20; i++) {
                words[i / 4] = words[i / 4] << 8 | (from + i < bytes.length ? bytes[from + i] & 255 : ' ');
            }
            equal &= same("feed", () -> program.feed(words[0], words[1], words[2], words[3], words[4]),
                () -> model.feed(words[0], words[1], words[2], words[3], words[4]));
        }
        return equal;
    }

    private static boolean text(String text, int kind) {
        boolean equal = feed(text);
        int length = rarely() ? below(640) - 20 : text.length();
        String name = " of " + length + " bytes: " + text;
        switch (kind) {
            case 0: equal &= same("load" + name, () -> program.load(length), () -> model.load(length)); break;
            case 1: equal &= same("change" + name, () -> program.change(length), () -> model.change(length)); break;
            default: equal &= same("query" + name, () -> program.query(length), () -> model.query(length)); break;
        }
        return equal & same("errorPosition", () -> program.errorPosition(), () -> model.errorPosition());
    }

    // ---- calls

    private static int index(int count) {
        return rarely() ? below(20) - 5 : below(Math.max(1, count));
    }

    private static int minute() {
        switch (below(20)) {
            case 0: return -1;
            case 1: return 1000000 - below(2);
            case 2: return 1000001;
            case 3: return Integer.MAX_VALUE - below(3);
            default: return below(100);
        }
    }

    private static boolean anyCall() {
        int kind = below(64);
        if (kind < 4) {
            return text(spoiled(changeText()), 1);
        }
        if (kind < 10) {
            return text(spoiled((below(2) == 0 ? "many " : "first ") + test(below(9))), 2);
        }
        if (kind == 10) {
            return below(3) == 0 ? text(spoiled(houseText()), 0) : feed(PIECES[below(PIECES.length)]);
        }
        return kind < 30 ? simpleCall(kind) : callOfTwo(kind);
    }

    private static boolean simpleCall(int kind) {
        int what = below(11) - (rarely() ? 1 : 0);
        int room = index(model.size(0));
        int guard = index(model.size(2));
        int door = index(model.size(1));
        int minutes = rarely() ? below(1100) - 50 : 1 + below(below(4) == 0 ? 500 : 9);
        switch (kind) {
            case 11: return same("size " + what, () -> program.size(what), () -> model.size(what));
            case 12: return same("gapFrom " + room, () -> program.gapFrom(room), () -> model.gapFrom(room));
            case 13: return same("bestWorst", () -> program.bestWorst(), () -> model.bestWorst());
            case 14: return same("bestCrossings", () -> program.bestCrossings(), () -> model.bestCrossings());
            case 15: return same("bestPhase " + guard, () -> program.bestPhase(guard), () -> model.bestPhase(guard));
            case 16: return same("longestStay", () -> program.longestStay(), () -> model.longestStay());
            case 17: return same("coverage", () -> program.coverage(), () -> model.coverage());
            case 18: return same("seenRate", () -> program.seenRate(), () -> model.seenRate());
            case 19: case 20: return same("pass " + minutes, () -> program.pass(minutes), () -> model.pass(minutes));
            case 21: return same("adopt", () -> program.adopt(), () -> model.adopt());
            case 22: return same("closeDoor " + door, () -> program.closeDoor(door), () -> model.closeDoor(door));
            case 23: return same("openDoor " + door, () -> program.openDoor(door), () -> model.openDoor(door));
            case 24: return format();
            case 25: return same("undoCount", () -> program.undoCount(), () -> model.undoCount());
            case 26: case 27: return same("undo", () -> program.undo(), () -> model.undo());
            case 28:
                calls++;
                program.saveSnapshot();
                model.saveSnapshot();
                return true;
            default:
                return below(3) > 0 || same("restoreSnapshot", () -> program.restoreSnapshot(), () -> model.restoreSnapshot());
        }
    }

    private static boolean format() {
        boolean equal = below(2) == 0 || same("format", () -> program.format(), () -> model.format());
        int from = below(40) - 1;
        for (int i = from; i < from + 12; i++) {
            int index = i;
            equal &= same("formattedByte " + i, () -> program.formattedByte(index), () -> model.formattedByte(index));
        }
        return equal;
    }

    private static boolean callOfTwo(int kind) {
        int room = index(model.size(0));
        int other = index(model.size(0));
        int guard = index(model.size(2));
        int second = index(model.size(2));
        int minute = minute();
        int phase = rarely() ? below(14) - 2 : below(guard >= 0 && guard < model.size(2) ? model.guard(guard, 0) : 2);
        int limit = rarely() ? below(200) - 50 : below(10);
        int minutes = rarely() ? below(110) - 5 : below(12);
        String two = " " + room + " " + other + " " + minute;
        String pair = " " + guard + " " + second + " " + minute;
        switch (kind) {
            case 30: case 31: return property();
            case 32: return same("roomOf" + pair, () -> program.roomOf(guard, minute), () -> model.roomOf(guard, minute));
            case 33: return same("guardsIn" + two, () -> program.guardsIn(room, minute), () -> model.guardsIn(room, minute));
            case 34: return same("nextSeen" + two, () -> program.nextSeen(room, minute), () -> model.nextSeen(room, minute));
            case 35: return same("isJoined" + two, () -> program.isJoined(room, other), () -> model.isJoined(room, other));
            case 36: return same("distance" + two, () -> program.distance(room, other), () -> model.distance(room, other));
            case 37: return same("meetings" + pair, () -> program.meetings(guard, second), () -> model.meetings(guard, second));
            case 38: return same("passings" + pair, () -> program.passings(guard, second), () -> model.passings(guard, second));
            case 39: return same("nextMeeting" + pair, () -> program.nextMeeting(guard, second, minute),
                () -> model.nextMeeting(guard, second, minute));
            case 40: return same("worstWith " + guard + " " + phase, () -> program.worstWith(guard, phase),
                () -> model.worstWith(guard, phase));
            case 41: case 42: case 43: case 44: return same("arrival" + two, () -> program.arrival(room, other, minute),
                () -> model.arrival(room, other, minute));
            case 45: case 46: return same("hiding" + two + " " + minutes, () -> program.hiding(room, minute, minutes),
                () -> model.hiding(room, minute, minutes));
            case 47: return same("shift " + guard + " " + phase, () -> program.shift(guard, phase), () -> model.shift(guard, phase));
            case 48: return same("setLimit " + room + " " + limit, () -> program.setLimit(room, limit),
                () -> model.setLimit(room, limit));
            default: return property();
        }
    }

    private static boolean property() {
        int what = below(8) - (rarely() ? 1 : 0);
        int few = below(rarely() ? 6 : 4);
        int room = index(model.size(0));
        int guard = index(model.size(2));
        int door = index(model.size(1));
        int step = below(12) - 1;
        switch (below(4)) {
            case 0: return same("door " + door + " " + few, () -> program.door(door, few), () -> model.door(door, few));
            case 1: return same("guard " + guard + " " + few, () -> program.guard(guard, few), () -> model.guard(guard, few));
            case 2: return same("walk " + guard + " " + step, () -> program.walk(guard, step), () -> model.walk(guard, step));
            default: return same("room " + room + " " + what, () -> program.room(room, what), () -> model.room(room, what));
        }
    }
}
