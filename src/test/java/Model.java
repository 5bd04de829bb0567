import java.util.ArrayDeque;
import java.util.ArrayList;
import java.util.HashMap;
import java.util.HashSet;
import java.util.List;
import java.util.Map;
import java.util.NoSuchElementException;
import java.util.Set;
import java.util.function.IntPredicate;
import java.util.function.IntUnaryOperator;

/**
 * The document once more, as slowly and as literally as can be, to compare GuardWalks with:
 * everything is found out by walking minute by minute, and all phases are tried.
 */
final class Model {
    static final class TextError extends Exception {
        private static final long serialVersionUID = 1L;
        final int code;
        final int position;

        TextError(int code, int position) {
            this.code = code;
            this.position = position;
        }
    }

    static final class Token {
        final String text;
        final int position;

        Token(String text, int position) {
            this.text = text;
            this.position = position;
        }

        boolean isNumber() {
            return !text.isEmpty() && Character.isDigit(text.charAt(0));
        }

        boolean isAbove(int most) {
            String digits = text.replaceFirst("^0+(?=.)", "");
            return digits.length() > 9 || Integer.parseInt(digits) > most;
        }
    }

    static final class Door {
        int first;
        int second;
        boolean open;
    }

    static final class Guard {
        List<Integer> walk = new ArrayList<>();
        int phase;
    }

    static final class Room {
        int limit = 99;
        int sightings;
        int last = -1;
        int run;
        int longest;
    }

    static final class State {
        List<Room> rooms = new ArrayList<>();
        List<Door> doors = new ArrayList<>();
        List<Guard> guards = new ArrayList<>();
        int minute;

        State copy() {
            State copy = new State();
            copy.minute = minute;
            for (Room room : rooms) {
                Room r = new Room();
                r.limit = room.limit;
                r.sightings = room.sightings;
                r.last = room.last;
                r.run = room.run;
                r.longest = room.longest;
                copy.rooms.add(r);
            }
            for (Door door : doors) {
                Door d = new Door();
                d.first = door.first;
                d.second = door.second;
                d.open = door.open;
                copy.doors.add(d);
            }
            for (Guard guard : guards) {
                Guard g = new Guard();
                g.walk.addAll(guard.walk);
                g.phase = guard.phase;
                copy.guards.add(g);
            }
            return copy;
        }

        boolean joined(int a, int b) {
            for (Door d : doors) {
                if (d.open && (d.first == a && d.second == b || d.first == b && d.second == a)) {
                    return true;
                }
            }
            return false;
        }

        int at(int guard, long minute) {
            Guard g = guards.get(guard);
            return g.walk.get((int) ((minute + g.phase) % g.walk.size()));
        }

        boolean seen(int room, long minute) {
            for (int g = 0; g < guards.size(); g++) {
                if (at(g, minute) == room) {
                    return true;
                }
            }
            return false;
        }

        int cycle() {
            int cycle = 1;
            for (;; cycle++) {
                boolean all = true;
                for (Guard g : guards) {
                    all &= cycle % g.walk.size() == 0;
                }
                if (all) {
                    return cycle;
                }
            }
        }

        /** The longest stretch of unseen minutes that begins at a minute; -1 if the room is never seen. */
        int stretch(int room, int from, int cycle) {
            for (int length = 0; length < cycle; length++) {
                if (seen(room, from + length)) {
                    return length;
                }
            }
            return -1;
        }

        int gap(int room) {
            int cycle = cycle();
            int gap = -1;
            for (int from = 0; from < cycle; from++) {
                gap = Math.max(gap, stretch(room, from, cycle));
            }
            return gap;
        }

        int gapFrom(int room) {
            int cycle = cycle();
            int gap = gap(room);
            for (int from = 0; gap > 0 && from < cycle; from++) {
                if (stretch(room, from, cycle) == gap) {
                    return from;
                }
            }
            return -1;
        }

        int worst() {
            int worst = 0;
            for (int room = 0; room < rooms.size(); room++) {
                worst = Math.max(worst, gap(room));
            }
            return worst;
        }

        boolean late(int room) {
            int gap = gap(room);
            return gap == -1 || gap > rooms.get(room).limit;
        }

        boolean meet(int a, int b, int minute) {
            return at(a, minute) == at(b, minute);
        }

        boolean pass(int a, int b, int minute) {
            return at(a, minute) != at(b, minute) && at(a, minute + 1) == at(b, minute) && at(b, minute + 1) == at(a, minute);
        }

        int meetings(int a, int b) {
            int count = 0;
            for (int minute = 0; a != b && minute < cycle(); minute++) {
                count += meet(a, b, minute) ? 1 : 0;
            }
            return count;
        }

        int passings(int a, int b) {
            int count = 0;
            for (int minute = 0; a != b && minute < cycle(); minute++) {
                count += pass(a, b, minute) ? 1 : 0;
            }
            return count;
        }

        int crossings() {
            int count = 0;
            for (int a = 0; a < guards.size(); a++) {
                for (int b = a + 1; b < guards.size(); b++) {
                    count += meetings(a, b) + passings(a, b);
                }
            }
            return count;
        }

        boolean goesThrough(Guard g, Door d) {
            for (int i = 0; i < g.walk.size(); i++) {
                int a = g.walk.get(i);
                int b = g.walk.get((i + 1) % g.walk.size());
                if (a == d.first && b == d.second || a == d.second && b == d.first) {
                    return true;
                }
            }
            return false;
        }

        Set<Integer> step(Set<Integer> places, int minute) {
            Set<Integer> next = new HashSet<>();
            for (int a : places) {
                for (int b = 0; b < rooms.size(); b++) {
                    boolean can = (a == b || joined(a, b)) && !seen(b, minute + 1);
                    for (int g = 0; g < guards.size(); g++) {
                        can &= !(a != b && at(g, minute) == b && at(g, minute + 1) == a);
                    }
                    if (can) {
                        next.add(b);
                    }
                }
            }
            return next;
        }
    }

    State state = new State();
    private State snapshot = null;
    private final ArrayDeque<State> history = new ArrayDeque<>();
    private final StringBuilder buffer = new StringBuilder();
    private int errorPosition = -1;
    private String formatted = "";
    private int[] best = null;

    Model() {
        state.rooms.add(new Room());
    }

    // ---- checks

    private void room(int room) {
        if (room < 0 || room >= state.rooms.size()) {
            throw new NoSuchElementException();
        }
    }

    private void door(int door) {
        if (door < 0 || door >= state.doors.size()) {
            throw new NoSuchElementException();
        }
    }

    private void guard(int guard) {
        if (guard < 0 || guard >= state.guards.size()) {
            throw new NoSuchElementException();
        }
    }

    private void range(int value, int least, int most) {
        if (value < least || value > most) {
            throw new IllegalArgumentException();
        }
    }

    private int none() {
        throw new NoSuchElementException();
    }

    private void phase(int guard, int phase) {
        range(phase, 0, state.guards.get(guard).walk.size() - 1);
    }

    // ---- texts

    int feed(int a, int b, int c, int d, int e) {
        if (buffer.length() + 20 > 600) {
            return -1;
        }
        for (int word : new int[] {a, b, c, d, e}) {
            for (int i = 3; i >= 0; i--) {
                buffer.append((char) (word >>> 8 * i & 0xff));
            }
        }
        return buffer.length();
    }

    private List<Token> tokens;
    private int next;

    private void read(int length) {
        String text = buffer.substring(0, length);
        buffer.setLength(0);
        errorPosition = -1;
        tokens = new ArrayList<>();
        next = 0;
        java.util.regex.Matcher m = java.util.regex.Pattern.compile("[a-z]+|[0-9]+|[^ \n]", java.util.regex.Pattern.DOTALL).matcher(text);
        while (m.find()) {
            tokens.add(new Token(m.group(), m.start()));
        }
        tokens.add(new Token("", length));
    }

    private Token token() {
        return tokens.get(next);
    }

    private TextError error(int code) {
        errorPosition = token().position;
        return new TextError(code, errorPosition);
    }

    private boolean is(String text) {
        return token().text.equals(text);
    }

    private void need(String text) throws TextError {
        if (!is(text)) {
            throw error(1);
        }
        next++;
    }

    private int number(int least, int most) throws TextError {
        if (!token().isNumber()) {
            throw error(1);
        }
        if (token().isAbove(most)) {
            throw error(2);
        }
        int number = Integer.parseInt(token().text.replaceFirst("^0+(?=.)", ""));
        if (number < least) {
            throw error(2);
        }
        next++;
        return number;
    }

    int load(int length) {
        range(length, 0, buffer.length());
        read(length);
        try {
            State fresh = new State();
            need("house");
            int rooms = number(1, 12);
            need(";");
            for (int i = 0; i < rooms; i++) {
                fresh.rooms.add(new Room());
            }
            while (!is("")) {
                clause(fresh);
            }
            state = fresh;
            snapshot = null;
            history.clear();
            best = null;
            return rooms;
        } catch (TextError e) {
            return -10 - e.code;
        }
    }

    private void clause(State s) throws TextError {
        int most = s.rooms.size() - 1;
        if (is("door")) {
            if (s.doors.size() == 20) {
                throw error(3);
            }
            next++;
            Door d = new Door();
            d.first = number(0, most);
            d.second = number(0, most);
            if (d.first == d.second) {
                next--;
                throw error(4);
            }
            d.open = !is("closed");
            next += d.open ? 0 : 1;
            need(";");
            s.doors.add(d);
        } else if (is("limit")) {
            next++;
            int room = number(0, most);
            s.rooms.get(room).limit = number(0, 99);
            need(";");
        } else if (is("guard")) {
            if (s.guards.size() == 4) {
                throw error(3);
            }
            next++;
            s.guards.add(walk(s, ";"));
            need(";");
        } else {
            throw error(1);
        }
    }

    private Guard walk(State s, String end) throws TextError {
        Guard g = new Guard();
        do {
            int room = number(0, s.rooms.size() - 1);
            int size = g.walk.size();
            if (size == 10) {
                next--;
                throw error(3);
            }
            if (size > 0 && g.walk.get(size - 1) != room && !s.joined(g.walk.get(size - 1), room)) {
                next--;
                throw error(4);
            }
            g.walk.add(room);
        } while (token().isNumber());
        if (!is("phase") && !is(end)) {
            throw error(1);
        }
        int first = g.walk.get(0);
        int last = g.walk.get(g.walk.size() - 1);
        if (first != last && !s.joined(first, last)) {
            throw error(4);
        }
        if (is("phase")) {
            next++;
            g.phase = number(0, g.walk.size() - 1);
        }
        return g;
    }

    int change(int length) {
        range(length, 0, buffer.length());
        read(length);
        try {
            need("walk");
            int guard = number(0, state.guards.size() - 1);
            Guard changed = walk(state, "");
            need("");
            record();
            state.guards.set(guard, changed);
            best = null;
            return state.cycle();
        } catch (TextError e) {
            return -10 - e.code;
        }
    }

    int errorPosition() {
        return errorPosition;
    }

    // ---- queries

    int query(int length) {
        if (length < 0 || length > 200 || length > buffer.length()) {
            throw new IllegalArgumentException();
        }
        read(length);
        try {
            boolean many = is("many");
            if (!many && !is("first")) {
                throw error(1);
            }
            next++;
            IntPredicate test = test(0);
            need("");
            int count = 0;
            for (int room = 0; room < state.rooms.size(); room++) {
                if (test.test(room)) {
                    count++;
                    if (!many) {
                        return room;
                    }
                }
            }
            return many ? count : -1;
        } catch (TextError e) {
            return -1000000000 - e.code;
        }
    }

    private IntPredicate test(int open) throws TextError {
        IntPredicate test = conjunction(open);
        while (is("or")) {
            next++;
            test = test.or(conjunction(open));
        }
        return test;
    }

    private IntPredicate conjunction(int open) throws TextError {
        IntPredicate test = factor(open);
        while (is("and")) {
            next++;
            test = test.and(factor(open));
        }
        return test;
    }

    private IntPredicate factor(int open) throws TextError {
        if ((is("not") || is("(")) && open == 6) {
            throw error(3);
        }
        if (is("not")) {
            next++;
            return factor(open + 1).negate();
        }
        if (is("(")) {
            next++;
            IntPredicate inner = test(open + 1);
            need(")");
            return inner;
        }
        IntUnaryOperator left = value();
        String sign = token().text;
        if (!sign.equals("<") && !sign.equals("=") && !sign.equals(">")) {
            throw error(1);
        }
        next++;
        IntUnaryOperator right = value();
        return room -> {
            int a = left.applyAsInt(room);
            int b = right.applyAsInt(room);
            return sign.equals("<") ? a < b : sign.equals("=") ? a == b : a > b;
        };
    }

    private IntUnaryOperator value() throws TextError {
        if (token().isNumber()) {
            int number = number(0, 9999);
            return room -> number;
        }
        Map<String, IntUnaryOperator> properties = new HashMap<>();
        properties.put("room", room -> room);
        properties.put("doors", room -> (int) state.doors.stream().filter(d -> d.open && (d.first == room || d.second == room)).count());
        properties.put("limit", room -> state.rooms.get(room).limit);
        properties.put("gap", room -> state.gap(room) == -1 ? 0 : state.gap(room));
        properties.put("never", room -> state.gap(room) == -1 ? 1 : 0);
        properties.put("late", room -> state.late(room) ? 1 : 0);
        properties.put("seen", room -> room(room, 3));
        properties.put("guards", room -> (int) state.guards.stream().filter(g -> g.walk.contains(room)).count());
        properties.put("sightings", room -> room(room, 4));
        properties.put("run", room -> room(room, 6));
        properties.put("longest", room -> room(room, 7));
        IntUnaryOperator property = properties.get(token().text);
        if (property == null) {
            throw error(1);
        }
        next++;
        return property;
    }

    // ---- answers

    int size(int what) {
        int count = 0;
        switch (what) {
            case 0: return state.rooms.size();
            case 1: return state.doors.size();
            case 2: return state.guards.size();
            case 3: return state.cycle();
            case 4: return state.minute;
            case 5: return state.worst();
            case 6:
                for (int room = 0; room < state.rooms.size(); room++) {
                    count += state.late(room) ? 1 : 0;
                }
                return count;
            case 7: return state.crossings();
            case 8: return (int) state.doors.stream().filter(d -> d.open).count();
            case 9: return state.rooms.stream().mapToInt(r -> r.sightings).sum();
            default: return none();
        }
    }

    int door(int door, int what) {
        door(door);
        Door d = state.doors.get(door);
        switch (what) {
            case 0: return d.first;
            case 1: return d.second;
            case 2: return d.open ? 1 : 0;
            case 3: return (int) state.guards.stream().filter(g -> state.goesThrough(g, d)).count();
            default: return none();
        }
    }

    int room(int room, int what) {
        room(room);
        Room r = state.rooms.get(room);
        switch (what) {
            case 0: return r.limit;
            case 1: return state.gap(room);
            case 2: return state.late(room) ? 1 : 0;
            case 3:
                int count = 0;
                for (int minute = 0; minute < state.cycle(); minute++) {
                    count += state.seen(room, minute) ? 1 : 0;
                }
                return count;
            case 4: return r.sightings;
            case 5: return r.last;
            case 6: return r.run;
            case 7: return r.longest;
            default: return none();
        }
    }

    int guard(int guard, int what) {
        guard(guard);
        Guard g = state.guards.get(guard);
        switch (what) {
            case 0: return g.walk.size();
            case 1: return g.phase;
            case 2: return state.at(guard, state.minute);
            case 3: return new HashSet<>(g.walk).size();
            default: return none();
        }
    }

    int walk(int guard, int step) {
        guard(guard);
        List<Integer> walk = state.guards.get(guard).walk;
        return step < 0 || step >= walk.size() ? -1 : walk.get(step);
    }

    int roomOf(int guard, int minute) {
        guard(guard);
        range(minute, 0, Integer.MAX_VALUE);
        return state.at(guard, minute);
    }

    int guardsIn(int room, int minute) {
        room(room);
        range(minute, 0, Integer.MAX_VALUE);
        int set = 0;
        for (int g = 0; g < state.guards.size(); g++) {
            set += state.at(g, minute) == room ? 1 << g : 0;
        }
        return set;
    }

    int nextSeen(int room, int minute) {
        room(room);
        range(minute, 0, 1000000);
        for (int m = minute; m < minute + 2520; m++) {
            if (state.seen(room, m)) {
                return m;
            }
        }
        return -1;
    }

    int gapFrom(int room) {
        room(room);
        return state.gapFrom(room);
    }

    boolean isJoined(int room, int other) {
        room(room);
        room(other);
        return state.joined(room, other);
    }

    int distance(int room, int other) {
        room(room);
        room(other);
        Set<Integer> reached = new HashSet<>(Set.of(room));
        for (int doors = 0; doors <= 12; doors++) {
            if (reached.contains(other)) {
                return doors;
            }
            Set<Integer> more = new HashSet<>(reached);
            for (int a : reached) {
                for (int b = 0; b < state.rooms.size(); b++) {
                    if (state.joined(a, b)) {
                        more.add(b);
                    }
                }
            }
            reached = more;
        }
        return -1;
    }

    int meetings(int guard, int other) {
        guard(guard);
        guard(other);
        return state.meetings(guard, other);
    }

    int passings(int guard, int other) {
        guard(guard);
        guard(other);
        return state.passings(guard, other);
    }

    int nextMeeting(int guard, int other, int minute) {
        guard(guard);
        guard(other);
        range(minute, 0, 1000000);
        for (int m = minute; guard != other && m < minute + 2520; m++) {
            if (state.meet(guard, other, m)) {
                return m;
            }
        }
        return -1;
    }

    int worstWith(int guard, int phase) {
        guard(guard);
        phase(guard, phase);
        State other = state.copy();
        other.guards.get(guard).phase = phase;
        return other.worst();
    }

    /** The worst gap, the crossings and the phases of the best phases. */
    private int[] best() {
        if (best == null) {
            int count = state.guards.size();
            State trial = state.copy();
            trial.guards.forEach(g -> g.phase = 0);
            boolean more = true;
            while (more) {
                int worst = trial.worst();
                if (best == null || worst < best[0] || worst == best[0] && trial.crossings() < best[1]) {
                    best = new int[2 + count];
                    best[0] = worst;
                    best[1] = trial.crossings();
                    for (int g = 0; g < count; g++) {
                        best[2 + g] = trial.guards.get(g).phase;
                    }
                }
                int g = count - 1;
                while (g >= 0 && trial.guards.get(g).phase == trial.guards.get(g).walk.size() - 1) {
                    trial.guards.get(g).phase = 0;
                    g--;
                }
                more = g >= 0;
                if (more) {
                    trial.guards.get(g).phase++;
                }
            }
        }
        return best;
    }

    int bestWorst() {
        return best()[0];
    }

    int bestCrossings() {
        return best()[1];
    }

    int bestPhase(int guard) {
        guard(guard);
        return best()[2 + guard];
    }

    int arrival(int from, int to, int minute) {
        room(from);
        room(to);
        range(minute, 0, 1000000);
        if (state.seen(from, minute)) {
            return -1;
        }
        int cycle = state.cycle();
        Set<Set<Integer>> atBegin = new HashSet<>();
        Set<Integer> places = Set.of(from);
        for (int m = minute;; m++) {
            if (places.contains(to)) {
                return m;
            }
            // the same places at the same minute of the cycle: nothing new comes
            if (places.isEmpty() || (m - minute) % cycle == 0 && !atBegin.add(places)) {
                return -1;
            }
            places = state.step(places, m);
        }
    }

    int hiding(int from, int minute, int minutes) {
        room(from);
        range(minute, 0, 1000000);
        range(minutes, 0, 100);
        Set<Integer> places = state.seen(from, minute) ? Set.of() : Set.of(from);
        for (int m = minute; m < minute + minutes; m++) {
            places = state.step(places, m);
        }
        return places.stream().mapToInt(room -> 1 << room).sum();
    }

    int longestStay() {
        int longest = -1;
        for (int room = 0; room < state.rooms.size(); room++) {
            for (int minutes = 100; minutes > longest; minutes--) {
                if (hiding(room, state.minute, minutes) != 0) {
                    longest = minutes;
                }
            }
        }
        return longest;
    }

    double coverage() {
        int sum = 0;
        for (int room = 0; room < state.rooms.size(); room++) {
            sum += room(room, 3);
        }
        return (double) sum / (double) (state.rooms.size() * state.cycle());
    }

    float seenRate() {
        return state.minute == 0 ? 0 : (float) size(9) / (float) state.minute;
    }

    // ---- operations

    private void record() {
        history.push(state.copy());
        if (history.size() > 10) {
            history.removeLast();
        }
    }

    int pass(int minutes) {
        range(minutes, 1, 500);
        if (state.minute + minutes > 99999) {
            return -2;
        }
        record();
        int sum = 0;
        for (int i = 0; i < minutes; i++) {
            for (int room = 0; room < state.rooms.size(); room++) {
                Room r = state.rooms.get(room);
                if (state.seen(room, state.minute)) {
                    sum++;
                    r.sightings++;
                    r.last = state.minute;
                    r.run = 0;
                } else {
                    r.run++;
                    r.longest = r.run > r.longest ? r.run : r.longest;
                }
            }
            state.minute++;
        }
        return sum;
    }

    int shift(int guard, int phase) {
        guard(guard);
        phase(guard, phase);
        record();
        state.guards.get(guard).phase = phase;
        return state.worst();
    }

    int adopt() {
        int[] phases = best();
        record();
        int changed = 0;
        for (int g = 0; g < state.guards.size(); g++) {
            changed += state.guards.get(g).phase != phases[2 + g] ? 1 : 0;
            state.guards.get(g).phase = phases[2 + g];
        }
        return changed;
    }

    int closeDoor(int door) {
        door(door);
        Door d = state.doors.get(door);
        if (!d.open) {
            return -2;
        }
        d.open = false;
        boolean needed = !state.joined(d.first, d.second) && door(door, 3) > 0;
        d.open = true;
        if (needed) {
            return -3;
        }
        record();
        d.open = false;
        return size(8);
    }

    int openDoor(int door) {
        door(door);
        Door d = state.doors.get(door);
        if (d.open) {
            return -2;
        }
        record();
        d.open = true;
        return size(8);
    }

    int setLimit(int room, int limit) {
        room(room);
        range(limit, 0, 99);
        record();
        state.rooms.get(room).limit = limit;
        return size(6);
    }

    // ---- format, undo, snapshot

    int format() {
        StringBuilder text = new StringBuilder();
        for (int room = 0; room < state.rooms.size(); room++) {
            text.append(room > 0 ? " " : "").append(room);
            for (int g = 0; g < state.guards.size(); g++) {
                text.append(state.at(g, state.minute) == room ? "abcd".substring(g, g + 1) : "");
            }
            text.append(state.late(room) ? "!" : "");
        }
        formatted = text.toString();
        return formatted.length();
    }

    int formattedByte(int index) {
        return index < 0 || index >= formatted.length() ? -1 : formatted.charAt(index);
    }

    int undoCount() {
        return history.size();
    }

    int undo() {
        if (history.isEmpty()) {
            return -1;
        }
        state = history.pop();
        best = null;
        return history.size();
    }

    void saveSnapshot() {
        snapshot = state.copy();
    }

    boolean restoreSnapshot() {
        if (snapshot == null) {
            return false;
        }
        state = snapshot.copy();
        history.clear();
        best = null;
        return true;
    }
}
