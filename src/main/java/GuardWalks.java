import java.util.Arrays;
import java.util.NoSuchElementException;

/** Guards on their rounds through a house; see README.md. */
public final class GuardWalks {
    public static final int NONE = -1;
    public static final int HIDDEN = -1000000000;

    private static final int MOST_ROOMS = 12;
    private static final int MOST_DOORS = 20;
    private static final int MOST_GUARDS = 4;
    private static final int MOST_STEPS = 10;
    // The periods 7, 8, 9 and 10 make the longest cycle that four guards can have.
    private static final int LONGEST_CYCLE = 2520;
    private static final int MOST_LIMIT = 99;

    private static final int MOST_BYTES = 600;
    private static final int MOST_QUERY_BYTES = 200;
    private static final int MOST_NUMBER = 9999;
    private static final int MOST_OPEN = 6;

    private static final int LATEST_BEGIN = 1000000;
    private static final int LATEST_PRESENT = 99999;
    private static final int MOST_MINUTES_AT_ONCE = 500;
    private static final int LONGEST_HIDING = 100;
    private static final int MOST_UNDO = 10;
    // Twelve rooms with all their signs and four guards need 41 bytes.
    private static final int MOST_FORMATTED = 64;

    private static final int FINE = 0;
    private static final int NOT_ALLOWED = 1;
    private static final int OUT_OF_RANGE = 2;
    private static final int TOO_MANY = 3;
    private static final int NOT_JOINED = 4;

    private static final int TEXT_ERRORS = -10;
    private static final int REFUSED = -2;
    private static final int REFUSED_NEEDED = -3;

    private final House house = new House();
    private final House scratch = new House();
    private final History history = new History();
    private final Sightings sightings = new Sightings();
    private final Sightings trialSightings = new Sightings();
    private final BestPhases bestPhases = new BestPhases();
    private final Intruder intruder = new Intruder();
    private final Tokens tokens = new Tokens();
    private final HouseReader houseReader = new HouseReader(tokens);
    private final QueryReader queryReader = new QueryReader(tokens);
    private final int[] formatted = new int[MOST_FORMATTED];
    private int formattedLength = 0;
    private int lastErrorPosition = NONE;
    private int lastStamp = 0;

    public GuardWalks() {
        house.begin(1);
    }

    // ---- the buffer and the texts in it

    public int feed(int a, int b, int c, int d, int e) {
        if (tokens.filled > MOST_BYTES - 20) {
            return NONE;
        }
        tokens.addBytes(a);
        tokens.addBytes(b);
        tokens.addBytes(c);
        tokens.addBytes(d);
        tokens.addBytes(e);
        return tokens.filled;
    }

    public int load(int length) throws IllegalArgumentException {
        needRange(length, 0, tokens.filled);
        tokens.begin(length);
        int code = houseReader.readHouse(scratch);
        endReading(code);
        if (code != FINE) {
            return TEXT_ERRORS - code;
        }
        house.copyFrom(scratch);
        markWalksChanged();
        history.forget();
        return house.rooms;
    }

    public int errorPosition() {
        return lastErrorPosition;
    }

    // ---- numbers of the house, its doors, rooms and guards

    public int size(int what) throws NoSuchElementException {
        switch (what) {
            case 0: return house.rooms;
            case 1: return house.doors;
            case 2: return house.guards;
            case 3: return house.cycleLength();
            case 4: return house.minute;
            case 5: return measured().worst;
            case 6: return measured().countLate(house);
            case 7: return house.countCrossings();
            case 8: return house.countOpenDoors();
            case 9: return house.countSightings();
            default: throw new NoSuchElementException("no such number of the house");
        }
    }

    public int door(int door, int what) throws NoSuchElementException {
        needDoor(door);
        switch (what) {
            case 0: return house.doorFirst[door];
            case 1: return house.doorSecond[door];
            case 2: return house.isOpen(door) ? 1 : 0;
            case 3: return house.countGuardsThrough(door);
            default: throw new NoSuchElementException("no such property of a door");
        }
    }

    public int room(int room, int what) throws NoSuchElementException {
        needRoom(room);
        switch (what) {
            case 0: return house.limits[room];
            case 1: return measured().gaps[room];
            case 2: return measured().isLate(house, room) ? 1 : 0;
            case 3: return measured().seen[room];
            case 4: return house.sightings[room];
            case 5: return house.lastSeen[room];
            case 6: return house.runs[room];
            case 7: return house.longestRuns[room];
            default: throw new NoSuchElementException("no such property of a room");
        }
    }

    public int guard(int guard, int what) throws NoSuchElementException {
        needGuard(guard);
        switch (what) {
            case 0: return house.periods[guard];
            case 1: return house.phases[guard];
            case 2: return house.roomAt(guard, house.minute);
            case 3: return Integer.bitCount(house.walked[guard]);
            default: throw new NoSuchElementException("no such property of a guard");
        }
    }

    public int walk(int guard, int step) throws NoSuchElementException {
        needGuard(guard);
        return house.walkRoom(guard, step);
    }

    // ---- where the guards are, and when rooms are seen

    public int roomOf(int guard, int minute) throws NoSuchElementException, IllegalArgumentException {
        needGuard(guard);
        needNotNegative(minute);
        return house.roomAt(guard, minute);
    }

    public int guardsIn(int room, int minute) throws NoSuchElementException, IllegalArgumentException {
        needRoom(room);
        needNotNegative(minute);
        return house.guardsAt(room, minute);
    }

    public int nextSeen(int room, int minute) throws NoSuchElementException, IllegalArgumentException {
        needRoom(room);
        needRange(minute, 0, LATEST_BEGIN);
        int cycle = house.cycleLength();
        for (int later = 0; later < cycle; later++) {
            if (house.guardsAt(room, minute + later) != 0) {
                return minute + later;
            }
        }
        return NONE;
    }

    public int gapFrom(int room) throws NoSuchElementException {
        needRoom(room);
        return measured().gapStarts[room];
    }

    public boolean isJoined(int room, int other) throws NoSuchElementException {
        needRoom(room);
        needRoom(other);
        return house.areJoined(room, other);
    }

    public int distance(int room, int other) throws NoSuchElementException {
        needRoom(room);
        needRoom(other);
        return house.doorsBetween(room, other);
    }

    public int meetings(int guard, int other) throws NoSuchElementException {
        needGuard(guard);
        needGuard(other);
        return house.countPair(guard, other, 1, 0);
    }

    public int passings(int guard, int other) throws NoSuchElementException {
        needGuard(guard);
        needGuard(other);
        return house.countPair(guard, other, 0, 1);
    }

    public int nextMeeting(int guard, int other, int minute) throws NoSuchElementException, IllegalArgumentException {
        needGuard(guard);
        needGuard(other);
        needRange(minute, 0, LATEST_BEGIN);
        if (guard == other) {
            return NONE;
        }
        int cycle = house.cycleLength();
        for (int later = 0; later < cycle; later++) {
            if (house.roomAt(guard, minute + later) == house.roomAt(other, minute + later)) {
                return minute + later;
            }
        }
        return NONE;
    }

    // ---- other phases

    public int worstWith(int guard, int phase) throws NoSuchElementException, IllegalArgumentException {
        needGuard(guard);
        needRange(phase, 0, house.periods[guard] - 1);
        scratch.copyFrom(house);
        scratch.phases[guard] = phase;
        trialSightings.measure(scratch);
        return trialSightings.worst;
    }

    public int bestWorst() {
        return best().worst;
    }

    public int bestCrossings() {
        return best().crossings;
    }

    public int bestPhase(int guard) throws NoSuchElementException {
        needGuard(guard);
        return best().phases[guard];
    }

    // ---- intruders

    public int arrival(int from, int to, int minute) throws NoSuchElementException, IllegalArgumentException {
        needRoom(from);
        needRoom(to);
        needRange(minute, 0, LATEST_BEGIN);
        return intruder.firstArrival(house, from, to, minute);
    }

    public int hiding(int from, int minute, int minutes) throws NoSuchElementException, IllegalArgumentException {
        needRoom(from);
        needRange(minute, 0, LATEST_BEGIN);
        needRange(minutes, 0, LONGEST_HIDING);
        return intruder.roomsAfter(house, from, minute, minutes);
    }

    public int longestStay() {
        return intruder.minutesFromNow(house);
    }

    // ---- rates

    public double coverage() {
        int places = house.rooms * house.cycleLength();
        if (places <= 0) {
            return 0.0;
        }
        return (double) measured().countSeen(house) / (double) places;
    }

    public float seenRate() {
        if (house.minute <= 0) {
            return 0.0f;
        }
        return (float) house.countSightings() / (float) house.minute;
    }

    // ---- operations

    public int pass(int minutes) throws IllegalArgumentException {
        needRange(minutes, 1, MOST_MINUTES_AT_ONCE);
        if (house.minute + minutes > LATEST_PRESENT) {
            return REFUSED;
        }
        history.record(house);
        int sum = 0;
        for (int passed = 0; passed < minutes; passed++) {
            sum += house.passMinute();
        }
        return sum;
    }

    public int shift(int guard, int phase) throws NoSuchElementException, IllegalArgumentException {
        needGuard(guard);
        needRange(phase, 0, house.periods[guard] - 1);
        history.record(house);
        house.phases[guard] = phase;
        markPhasesChanged();
        return measured().worst;
    }

    public int adopt() {
        BestPhases best = best();
        history.record(house);
        int changed = 0;
        for (int guard = 0; guard < house.guards && guard < MOST_GUARDS; guard++) {
            if (house.phases[guard] != best.phases[guard]) {
                house.phases[guard] = best.phases[guard];
                changed++;
            }
        }
        markPhasesChanged();
        return changed;
    }

    public int closeDoor(int door) throws NoSuchElementException {
        needDoor(door);
        if (!house.isOpen(door)) {
            return REFUSED;
        }
        if (house.countGuardsThrough(door) > 0 && !house.hasOtherOpenDoor(door)) {
            return REFUSED_NEEDED;
        }
        history.record(house);
        house.setOpen(door, false);
        return house.countOpenDoors();
    }

    public int openDoor(int door) throws NoSuchElementException {
        needDoor(door);
        if (house.isOpen(door)) {
            return REFUSED;
        }
        history.record(house);
        house.setOpen(door, true);
        return house.countOpenDoors();
    }

    public int setLimit(int room, int limit) throws NoSuchElementException, IllegalArgumentException {
        needRoom(room);
        needRange(limit, 0, MOST_LIMIT);
        history.record(house);
        house.limits[room] = limit;
        return measured().countLate(house);
    }

    public int change(int length) throws IllegalArgumentException {
        needRange(length, 0, tokens.filled);
        tokens.begin(length);
        scratch.copyFrom(house);
        int code = houseReader.readChange(scratch);
        endReading(code);
        if (code != FINE) {
            return TEXT_ERRORS - code;
        }
        history.record(house);
        house.copyFrom(scratch);
        markWalksChanged();
        return house.cycleLength();
    }

    // ---- the present minute as text

    public int format() {
        formattedLength = 0;
        for (int room = 0; room < house.rooms; room++) {
            if (room > 0) {
                addFormatted(' ');
            }
            addFormattedRoom(room);
        }
        return formattedLength;
    }

    public int formattedByte(int index) {
        if (index < 0 || index >= formattedLength || index >= formatted.length) {
            return NONE;
        }
        return formatted[index];
    }

    // ---- going back

    public int undoCount() {
        return history.count;
    }

    public int undo() {
        return history.takeBack(house) ? history.count : NONE;
    }

    public void saveSnapshot() {
        history.keepSnapshot(house);
    }

    public boolean restoreSnapshot() {
        return history.bringSnapshot(house);
    }

    // ---- queries

    public int query(int length) throws IllegalArgumentException {
        needRange(length, 0, Math.min(MOST_QUERY_BYTES, tokens.filled));
        tokens.begin(length);
        int code = queryReader.readQuery(house, measured());
        endReading(code);
        return code == FINE ? queryReader.answer : HIDDEN - code;
    }

    // ---- helpers of the calls above

    private void needRoom(int room) {
        if (!house.hasRoom(room)) {
            throw new NoSuchElementException("no such room");
        }
    }

    private void needDoor(int door) {
        if (!house.hasDoor(door)) {
            throw new NoSuchElementException("no such door");
        }
    }

    private void needGuard(int guard) {
        if (!house.hasGuard(guard)) {
            throw new NoSuchElementException("no such guard");
        }
    }

    private static void needRange(int value, int least, int most) {
        if (value < least || value > most) {
            throw new IllegalArgumentException("out of range");
        }
    }

    private static void needNotNegative(int minute) {
        if (minute < 0) {
            throw new IllegalArgumentException("negative");
        }
    }

    private void endReading(int code) {
        lastErrorPosition = code == FINE ? NONE : tokens.from;
        tokens.filled = 0;
    }

    // The stamps tell the measured gaps and the best phases for which walks and
    // phases they hold; undoing brings the old stamp back with the old walks.
    private void markPhasesChanged() {
        lastStamp++;
        house.phasesStamp = lastStamp;
    }

    private void markWalksChanged() {
        markPhasesChanged();
        house.walksStamp = lastStamp;
    }

    private Sightings measured() {
        if (sightings.stamp != house.phasesStamp) {
            sightings.measure(house);
        }
        return sightings;
    }

    private BestPhases best() {
        if (bestPhases.stamp != house.walksStamp) {
            bestPhases.search(house);
        }
        return bestPhases;
    }

    private void addFormattedRoom(int room) {
        if (room >= 10) {
            addFormatted('0' + room / 10);
        }
        addFormatted('0' + room % 10);
        int present = house.guardsAt(room, house.minute);
        for (int guard = 0; guard < house.guards; guard++) {
            if (has(present, guard)) {
                addFormatted('a' + guard);
            }
        }
        if (measured().isLate(house, room)) {
            addFormatted('!');
        }
    }

    private void addFormatted(int sign) {
        if (formattedLength >= 0 && formattedLength < formatted.length) {
            formatted[formattedLength] = sign;
            formattedLength++;
        }
    }

    private static boolean has(int set, int member) {
        return (set >> member & 1) != 0;
    }

    private static int leastMultiple(int a, int b) {
        if (b < 1) {
            return a;
        }
        for (int times = 1; times < b; times++) {
            if (a * times % b == 0) {
                return a * times;
            }
        }
        return a * b;
    }

    /** The doors, rooms and guards with all that an operation can change. Sets are bits of an int. */
    private static final class House {
        int rooms = 0;
        int doors = 0;
        int guards = 0;
        int minute = 0;
        int openDoors = 0;
        int walksStamp = 0;
        int phasesStamp = 0;
        final int[] doorFirst = new int[MOST_DOORS];
        final int[] doorSecond = new int[MOST_DOORS];
        final int[] joined = new int[MOST_ROOMS];
        final int[] limits = new int[MOST_ROOMS];
        final int[] periods = new int[MOST_GUARDS];
        final int[] phases = new int[MOST_GUARDS];
        final int[] walks = new int[MOST_GUARDS * MOST_STEPS];
        final int[] walked = new int[MOST_GUARDS];
        final int[] sightings = new int[MOST_ROOMS];
        final int[] lastSeen = new int[MOST_ROOMS];
        final int[] runs = new int[MOST_ROOMS];
        final int[] longestRuns = new int[MOST_ROOMS];

        /** Makes this a house without doors and guards at minute 0. */
        void begin(int roomCount) {
            rooms = roomCount;
            doors = 0;
            guards = 0;
            minute = 0;
            openDoors = 0;
            Arrays.fill(joined, 0);
            Arrays.fill(limits, MOST_LIMIT);
            Arrays.fill(sightings, 0);
            Arrays.fill(lastSeen, NONE);
            Arrays.fill(runs, 0);
            Arrays.fill(longestRuns, 0);
        }

        void copyFrom(House other) {
            rooms = other.rooms;
            doors = other.doors;
            guards = other.guards;
            minute = other.minute;
            openDoors = other.openDoors;
            walksStamp = other.walksStamp;
            phasesStamp = other.phasesStamp;
            System.arraycopy(other.doorFirst, 0, doorFirst, 0, MOST_DOORS);
            System.arraycopy(other.doorSecond, 0, doorSecond, 0, MOST_DOORS);
            System.arraycopy(other.joined, 0, joined, 0, MOST_ROOMS);
            System.arraycopy(other.limits, 0, limits, 0, MOST_ROOMS);
            System.arraycopy(other.periods, 0, periods, 0, MOST_GUARDS);
            System.arraycopy(other.phases, 0, phases, 0, MOST_GUARDS);
            System.arraycopy(other.walks, 0, walks, 0, MOST_GUARDS * MOST_STEPS);
            System.arraycopy(other.walked, 0, walked, 0, MOST_GUARDS);
            System.arraycopy(other.sightings, 0, sightings, 0, MOST_ROOMS);
            System.arraycopy(other.lastSeen, 0, lastSeen, 0, MOST_ROOMS);
            System.arraycopy(other.runs, 0, runs, 0, MOST_ROOMS);
            System.arraycopy(other.longestRuns, 0, longestRuns, 0, MOST_ROOMS);
        }

        int allRooms() {
            return (1 << rooms) - 1;
        }

        boolean hasRoom(int room) {
            return room >= 0 && room < rooms && room < MOST_ROOMS;
        }

        boolean hasDoor(int door) {
            return door >= 0 && door < doors && door < MOST_DOORS;
        }

        boolean hasGuard(int guard) {
            return guard >= 0 && guard < guards && guard < MOST_GUARDS;
        }

        // ---- doors

        void addDoor(int first, int second, boolean open) {
            if (doors < 0 || doors >= MOST_DOORS) {
                return;
            }
            doorFirst[doors] = first;
            doorSecond[doors] = second;
            doors++;
            setOpen(doors - 1, open);
        }

        boolean isOpen(int door) {
            return has(openDoors, door);
        }

        void setOpen(int door, boolean open) {
            openDoors = open ? openDoors | 1 << door : openDoors & ~(1 << door);
            Arrays.fill(joined, 0);
            for (int d = 0; d < doors && d < MOST_DOORS; d++) {
                if (isOpen(d)) {
                    join(doorFirst[d], doorSecond[d]);
                    join(doorSecond[d], doorFirst[d]);
                }
            }
        }

        private void join(int from, int to) {
            if (hasRoom(from)) {
                joined[from] |= 1 << to;
            }
        }

        int countOpenDoors() {
            return Integer.bitCount(openDoors);
        }

        // A query asks for this from the depth of its grammar: no further calls here.
        int countOpenDoorsOf(int room) {
            int count = 0;
            for (int d = 0; d < doors && d < MOST_DOORS; d++) {
                if ((openDoors >> d & 1) != 0 && (doorFirst[d] == room || doorSecond[d] == room)) {
                    count++;
                }
            }
            return count;
        }

        boolean hasOtherOpenDoor(int door) {
            for (int d = 0; d < doors && d < MOST_DOORS; d++) {
                if (d != door && isOpen(d) && isBetweenSameRooms(d, door)) {
                    return true;
                }
            }
            return false;
        }

        private boolean isBetweenSameRooms(int door, int other) {
            return hasDoor(door) && hasDoor(other)
                && (doorFirst[door] == doorFirst[other] && doorSecond[door] == doorSecond[other]
                    || doorFirst[door] == doorSecond[other] && doorSecond[door] == doorFirst[other]);
        }

        boolean areJoined(int room, int other) {
            return hasRoom(room) && has(joined[room], other);
        }

        int doorsBetween(int from, int to) {
            int reached = 1 << from;
            for (int steps = 0; steps < MOST_ROOMS; steps++) {
                if (has(reached, to)) {
                    return steps;
                }
                int further = reached;
                for (int room = 0; room < rooms && room < MOST_ROOMS; room++) {
                    if (has(reached, room)) {
                        further |= joined[room];
                    }
                }
                reached = further;
            }
            return NONE;
        }

        // ---- walks

        void emptyWalk(int guard) {
            if (hasGuard(guard)) {
                periods[guard] = 0;
                phases[guard] = 0;
                walked[guard] = 0;
            }
        }

        void addStep(int guard, int room) {
            if (hasGuard(guard) && periods[guard] >= 0 && periods[guard] < MOST_STEPS) {
                walks[guard * MOST_STEPS + periods[guard]] = room;
                walked[guard] |= 1 << room;
                periods[guard]++;
            }
        }

        int walkRoom(int guard, int step) {
            if (!hasGuard(guard) || step < 0 || step >= periods[guard] || step >= MOST_STEPS) {
                return NONE;
            }
            return walks[guard * MOST_STEPS + step];
        }

        int lastRoom(int guard) {
            if (!hasGuard(guard) || periods[guard] < 1 || periods[guard] > MOST_STEPS) {
                return NONE;
            }
            return walks[guard * MOST_STEPS + periods[guard] - 1];
        }

        /** Whether a walk may go from one room to the other; it may begin (NONE) anywhere. */
        boolean canGo(int from, int to) {
            return from == NONE || from == to || hasRoom(from) && has(joined[from], to);
        }

        int countGuardsThrough(int door) {
            if (!hasDoor(door)) {
                return 0;
            }
            int count = 0;
            for (int guard = 0; guard < guards; guard++) {
                if (goesThrough(guard, doorFirst[door], doorSecond[door])) {
                    count++;
                }
            }
            return count;
        }

        private boolean goesThrough(int guard, int first, int second) {
            int before = lastRoom(guard);
            for (int step = 0; step < MOST_STEPS && walkRoom(guard, step) != NONE; step++) {
                int now = walkRoom(guard, step);
                if (before == first && now == second || before == second && now == first) {
                    return true;
                }
                before = now;
            }
            return false;
        }

        // No further calls here either.
        int countGuardsWalking(int room) {
            int count = 0;
            for (int guard = 0; guard < guards && guard < MOST_GUARDS; guard++) {
                if ((walked[guard] >> room & 1) != 0) {
                    count++;
                }
            }
            return count;
        }

        int cycleLength() {
            int cycle = 1;
            for (int guard = 0; guard < guards && guard < MOST_GUARDS; guard++) {
                cycle = leastMultiple(cycle, periods[guard]);
            }
            return cycle;
        }

        // ---- where the guards are

        int roomAt(int guard, int when) {
            if (!hasGuard(guard) || when < 0 || periods[guard] < 1) {
                return NONE;
            }
            // The minute is reduced first: with the phase added it could leave the ints.
            int step = when % periods[guard] + phases[guard];
            if (step >= periods[guard]) {
                step -= periods[guard];
            }
            return step < 0 || step >= MOST_STEPS ? NONE : walks[guard * MOST_STEPS + step];
        }

        int guardsAt(int room, int when) {
            int set = 0;
            for (int guard = 0; guard < guards; guard++) {
                if (roomAt(guard, when) == room) {
                    set |= 1 << guard;
                }
            }
            return set;
        }

        int roomsSeenAt(int when) {
            int set = 0;
            for (int guard = 0; guard < guards; guard++) {
                int room = roomAt(guard, when);
                if (room != NONE) {
                    set |= 1 << room;
                }
            }
            return set;
        }

        /** Adds up the meetings and passings of two guards in a cycle, each with what it counts. */
        int countPair(int guard, int other, int meeting, int passing) {
            if (guard == other) {
                return 0;
            }
            int cycle = cycleLength();
            int count = 0;
            int room = roomAt(guard, 0);
            int otherRoom = roomAt(other, 0);
            for (int when = 1; when <= cycle; when++) {
                int nextRoom = roomAt(guard, when);
                int nextOther = roomAt(other, when);
                if (room == otherRoom) {
                    count += meeting;
                } else if (room == nextOther && otherRoom == nextRoom) {
                    count += passing;
                }
                room = nextRoom;
                otherRoom = nextOther;
            }
            return count;
        }

        int countCrossings() {
            int count = 0;
            for (int guard = 0; guard < guards; guard++) {
                for (int other = guard + 1; other < guards; other++) {
                    count += countPair(guard, other, 1, 1);
                }
            }
            return count;
        }

        // ---- minutes that pass

        int passMinute() {
            int seen = roomsSeenAt(minute);
            for (int room = 0; room < rooms && room < MOST_ROOMS; room++) {
                if (has(seen, room)) {
                    sightings[room]++;
                    lastSeen[room] = minute;
                    runs[room] = 0;
                } else {
                    runs[room]++;
                    longestRuns[room] = Math.max(longestRuns[room], runs[room]);
                }
            }
            minute++;
            return Integer.bitCount(seen);
        }

        int countSightings() {
            int sum = 0;
            for (int room = 0; room < rooms && room < MOST_ROOMS; room++) {
                sum += sightings[room];
            }
            return sum;
        }
    }

    /** What a cycle of a house shows of each room. */
    private static final class Sightings {
        final int[] seen = new int[MOST_ROOMS];
        final int[] gaps = new int[MOST_ROOMS];
        final int[] gapStarts = new int[MOST_ROOMS];
        final int[] first = new int[MOST_ROOMS];
        final int[] last = new int[MOST_ROOMS];
        final int[] steps = new int[MOST_GUARDS];
        int worst = 0;
        int stamp = NONE;

        void measure(House house) {
            Arrays.fill(seen, 0);
            Arrays.fill(gaps, 0);
            Arrays.fill(gapStarts, NONE);
            Arrays.fill(first, NONE);
            Arrays.fill(last, NONE);
            System.arraycopy(house.phases, 0, steps, 0, MOST_GUARDS);
            int cycle = house.cycleLength();
            for (int minute = 0; minute < cycle; minute++) {
                seeMinute(house, minute);
            }
            worst = 0;
            for (int room = 0; room < house.rooms && room < MOST_ROOMS; room++) {
                closeRound(room, cycle);
                worst = Math.max(worst, gaps[room]);
            }
            stamp = house.phasesStamp;
        }

        private void seeMinute(House house, int minute) {
            for (int guard = 0; guard < house.guards && guard < MOST_GUARDS; guard++) {
                seeRoom(house.walkRoom(guard, steps[guard]), minute);
                steps[guard]++;
                if (steps[guard] >= house.periods[guard]) {
                    steps[guard] = 0;
                }
            }
        }

        private void seeRoom(int room, int minute) {
            if (room < 0 || room >= MOST_ROOMS || last[room] == minute) {
                return;
            }
            if (last[room] == NONE) {
                first[room] = minute;
            } else if (minute - last[room] - 1 > gaps[room]) {
                gaps[room] = minute - last[room] - 1;
                gapStarts[room] = last[room] + 1;
            }
            last[room] = minute;
            seen[room]++;
        }

        // The stretch round the end of the cycle begins last of all, but at minute 0
        // if the cycle ends with a sighting: then it is the first one on a tie.
        private void closeRound(int room, int cycle) {
            if (room < 0 || room >= MOST_ROOMS) {
                return;
            }
            if (last[room] == NONE) {
                gaps[room] = NONE;
                return;
            }
            int gap = first[room] + cycle - last[room] - 1;
            int start = last[room] + 1 < cycle ? last[room] + 1 : 0;
            if (gap > gaps[room] || gap > 0 && gap == gaps[room] && start < gapStarts[room]) {
                gaps[room] = gap;
                gapStarts[room] = start;
            }
        }

        boolean isLate(House house, int room) {
            return room >= 0 && room < MOST_ROOMS && (gaps[room] == NONE || gaps[room] > house.limits[room]);
        }

        int countLate(House house) {
            int count = 0;
            for (int room = 0; room < house.rooms; room++) {
                if (isLate(house, room)) {
                    count++;
                }
            }
            return count;
        }

        int countSeen(House house) {
            int sum = 0;
            for (int room = 0; room < house.rooms && room < MOST_ROOMS; room++) {
                sum += seen[room];
            }
            return sum;
        }
    }

    /** The search for the phases that are better than all others. */
    private static final class BestPhases {
        final int[] phases = new int[MOST_GUARDS];
        int worst = 0;
        int crossings = 0;
        int stamp = NONE;
        private final int[] spans = new int[MOST_GUARDS];
        private final House trial = new House();
        private final Sightings trialSightings = new Sightings();

        void search(House house) {
            trial.copyFrom(house);
            int choices = beginChoices();
            for (int choice = 0; choice < choices; choice++) {
                tryPhases(choice == 0);
                nextChoice();
            }
            stamp = house.walksStamp;
        }

        // All guards a minute further on make the same cycle, begun later. Of the
        // phases that differ in this alone the first ones have each guard's phase
        // below the span that the guards ahead of it leave; no others need a try.
        private int beginChoices() {
            int cycle = 1;
            int choices = 1;
            for (int guard = 0; guard < trial.guards && guard < MOST_GUARDS; guard++) {
                int longer = leastMultiple(cycle, trial.periods[guard]);
                spans[guard] = longer < 1 ? 1 : cycle * trial.periods[guard] / longer;
                choices *= spans[guard];
                cycle = longer;
                trial.phases[guard] = 0;
            }
            return choices;
        }

        private void nextChoice() {
            for (int guard = Math.min(trial.guards, MOST_GUARDS) - 1; guard >= 0; guard--) {
                if (trial.phases[guard] + 1 < spans[guard]) {
                    trial.phases[guard]++;
                    return;
                }
                trial.phases[guard] = 0;
            }
        }

        private void tryPhases(boolean isFirst) {
            trialSightings.measure(trial);
            if (!isFirst && trialSightings.worst > worst) {
                return;
            }
            int trialCrossings = trial.countCrossings();
            if (isFirst || trialSightings.worst < worst || trialCrossings < crossings) {
                worst = trialSightings.worst;
                crossings = trialCrossings;
                System.arraycopy(trial.phases, 0, phases, 0, MOST_GUARDS);
            }
        }
    }

    /** Where somebody can be who is never seen. */
    private static final class Intruder {
        private final int[] visited = new int[LONGEST_CYCLE];
        private final int[] barred = new int[MOST_ROOMS];

        int firstArrival(House house, int from, int to, int minute) {
            int cycle = house.cycleLength();
            if (cycle < 1 || cycle > LONGEST_CYCLE) {
                return NONE;
            }
            Arrays.fill(visited, 0);
            int place = minute % cycle;
            int front = (1 << from) & ~house.roomsSeenAt(minute);
            // A room at a minute of the cycle leads nowhere new the second time.
            for (int later = 0; later <= MOST_ROOMS * LONGEST_CYCLE && front != 0; later++) {
                if (has(front, to)) {
                    return minute + later;
                }
                if (place < 0 || place >= LONGEST_CYCLE) {
                    return NONE;
                }
                visited[place] |= front;
                place = place + 1 < cycle ? place + 1 : 0;
                front = roomsNext(house, front, minute + later) & ~visited[place];
            }
            return NONE;
        }

        int roomsAfter(House house, int from, int minute, int minutes) {
            int set = (1 << from) & ~house.roomsSeenAt(minute);
            for (int later = 0; later < minutes && set != 0; later++) {
                set = roomsNext(house, set, minute + later);
            }
            return set;
        }

        int minutesFromNow(House house) {
            int set = house.allRooms() & ~house.roomsSeenAt(house.minute);
            if (set == 0) {
                return NONE;
            }
            for (int later = 0; later < LONGEST_HIDING; later++) {
                set = roomsNext(house, set, house.minute + later);
                if (set == 0) {
                    return later;
                }
            }
            return LONGEST_HIDING;
        }

        private int roomsNext(House house, int set, int minute) {
            barPassing(house, minute);
            int next = set;
            for (int room = 0; room < house.rooms && room < MOST_ROOMS; room++) {
                if (has(set, room)) {
                    next |= house.joined[room] & ~barred[room];
                }
            }
            return next & ~house.roomsSeenAt(minute + 1);
        }

        // Out of a room that a guard comes into, nobody can go where this guard comes from.
        private void barPassing(House house, int minute) {
            Arrays.fill(barred, 0);
            for (int guard = 0; guard < house.guards; guard++) {
                int from = house.roomAt(guard, minute);
                int to = house.roomAt(guard, minute + 1);
                if (from >= 0 && to >= 0 && to < MOST_ROOMS) {
                    barred[to] |= 1 << from;
                }
            }
        }
    }

    /** The operations that can be undone, as the houses before them, and the snapshot. */
    private static final class History {
        private final House[] earlier = new House[MOST_UNDO];
        private final House snapshot = new House();
        private boolean saved = false;
        private int next = 0;
        int count = 0;

        History() {
            for (int i = 0; i < MOST_UNDO; i++) {
                earlier[i] = new House();
            }
        }

        void record(House house) {
            if (next < 0 || next >= MOST_UNDO || earlier[next] == null) {
                return;
            }
            earlier[next].copyFrom(house);
            next = next + 1 < MOST_UNDO ? next + 1 : 0;
            count = Math.min(count + 1, MOST_UNDO);
        }

        boolean takeBack(House house) {
            int previous = next > 0 ? next - 1 : MOST_UNDO - 1;
            if (count == 0 || previous >= MOST_UNDO || earlier[previous] == null) {
                return false;
            }
            house.copyFrom(earlier[previous]);
            next = previous;
            count--;
            return true;
        }

        void keepSnapshot(House house) {
            snapshot.copyFrom(house);
            saved = true;
        }

        boolean bringSnapshot(House house) {
            if (!saved) {
                return false;
            }
            house.copyFrom(snapshot);
            count = 0;
            return true;
        }

        void forget() {
            count = 0;
            saved = false;
        }
    }

    /** The buffer, and its text token by token: the present token is the one from from to to. */
    private static final class Tokens {
        private static final int END = 0;
        private static final int WORD = 1;
        private static final int NUMBER = 2;
        private static final int SIGN = 3;

        private final int[] bytes = new int[MOST_BYTES];
        int filled = 0;
        int from = 0;
        int number = 0;
        private int to = 0;
        private int limit = 0;
        private int kind = END;

        void addBytes(int four) {
            for (int shift = 24; shift >= 0; shift -= 8) {
                if (filled >= 0 && filled < MOST_BYTES) {
                    bytes[filled] = four >> shift & 255;
                    filled++;
                }
            }
        }

        void begin(int length) {
            limit = Math.min(length, MOST_BYTES);
            to = 0;
            advance();
        }

        // No range goes beyond MOST_NUMBER: a number that is greater need not grow on.
        void advance() {
            while (to >= 0 && to < limit && (bytes[to] == ' ' || bytes[to] == '\n')) {
                to++;
            }
            from = to;
            number = 0;
            kind = from >= 0 && from < limit ? kindOf(bytes[from]) : END;
            if (kind == SIGN) {
                to++;
                return;
            }
            while (to >= 0 && to < limit && kindOf(bytes[to]) == kind) {
                if (kind == NUMBER && number <= MOST_NUMBER) {
                    number = number * 10 + bytes[to] - '0';
                }
                to++;
            }
        }

        /** The kind of the token that begins with this byte, if it is no blank. */
        private static int kindOf(int sign) {
            if (sign >= 'a' && sign <= 'z') {
                return WORD;
            }
            return sign >= '0' && sign <= '9' ? NUMBER : SIGN;
        }

        boolean isEnd() {
            return kind == END;
        }

        boolean isNumber() {
            return kind == NUMBER;
        }

        boolean isSign(char sign) {
            return kind == SIGN && from >= 0 && from < MOST_BYTES && bytes[from] == sign;
        }

        boolean isWord(String word) {
            if (kind != WORD || to - from != word.length()) {
                return false;
            }
            for (int i = 0; i < word.length(); i++) {
                if (from + i < 0 || from + i >= MOST_BYTES || bytes[from + i] != word.charAt(i)) {
                    return false;
                }
            }
            return true;
        }

        /** The error code of the present token where a number of this range must stand. */
        int numberCode(int least, int most) {
            if (kind != NUMBER) {
                return NOT_ALLOWED;
            }
            return number < least || number > most ? OUT_OF_RANGE : FINE;
        }
    }

    /** Reads texts and changes. Each method answers an error code; the present token is then the one with the error. */
    private static final class HouseReader {
        private final Tokens tokens;

        HouseReader(Tokens tokens) {
            this.tokens = tokens;
        }

        int readHouse(House house) {
            if (!tokens.isWord("house")) {
                return NOT_ALLOWED;
            }
            tokens.advance();
            int code = tokens.numberCode(1, MOST_ROOMS);
            if (code != FINE) {
                return code;
            }
            house.begin(tokens.number);
            tokens.advance();
            code = readSemicolon();
            for (int clauses = 0; clauses < MOST_BYTES && code == FINE && !tokens.isEnd(); clauses++) {
                code = readClause(house);
            }
            return code;
        }

        /** Reads a change into a copy of the house, which is spoiled by an error. */
        int readChange(House house) {
            if (!tokens.isWord("walk")) {
                return NOT_ALLOWED;
            }
            tokens.advance();
            int code = tokens.numberCode(0, house.guards - 1);
            if (code != FINE) {
                return code;
            }
            int guard = tokens.number;
            tokens.advance();
            code = readWalk(house, guard, true);
            if (code != FINE) {
                return code;
            }
            return tokens.isEnd() ? FINE : NOT_ALLOWED;
        }

        private int readClause(House house) {
            if (tokens.isWord("door")) {
                return house.doors < MOST_DOORS ? readDoor(house) : TOO_MANY;
            }
            if (tokens.isWord("guard")) {
                return house.guards < MOST_GUARDS ? readGuard(house) : TOO_MANY;
            }
            return tokens.isWord("limit") ? readLimit(house) : NOT_ALLOWED;
        }

        private int readSemicolon() {
            if (!tokens.isSign(';')) {
                return NOT_ALLOWED;
            }
            tokens.advance();
            return FINE;
        }

        private int readDoor(House house) {
            tokens.advance();
            int code = tokens.numberCode(0, house.rooms - 1);
            if (code != FINE) {
                return code;
            }
            int first = tokens.number;
            tokens.advance();
            code = tokens.numberCode(0, house.rooms - 1);
            if (code != FINE) {
                return code;
            }
            int second = tokens.number;
            if (second == first) {
                return NOT_JOINED;
            }
            tokens.advance();
            boolean closed = tokens.isWord("closed");
            if (closed) {
                tokens.advance();
            }
            house.addDoor(first, second, !closed);
            return readSemicolon();
        }

        private int readLimit(House house) {
            tokens.advance();
            int code = tokens.numberCode(0, house.rooms - 1);
            if (code != FINE) {
                return code;
            }
            int room = tokens.number;
            tokens.advance();
            code = tokens.numberCode(0, MOST_LIMIT);
            if (code != FINE) {
                return code;
            }
            if (house.hasRoom(room)) {
                house.limits[room] = tokens.number;
            }
            tokens.advance();
            return readSemicolon();
        }

        private int readGuard(House house) {
            tokens.advance();
            int guard = house.guards;
            house.guards++;
            int code = readWalk(house, guard, false);
            return code == FINE ? readSemicolon() : code;
        }

        private int readWalk(House house, int guard, boolean inChange) {
            if (!house.hasGuard(guard)) {
                return OUT_OF_RANGE;
            }
            house.emptyWalk(guard);
            int code = tokens.numberCode(0, house.rooms - 1);
            for (int steps = 0; steps <= MOST_STEPS && code == FINE && tokens.isNumber(); steps++) {
                code = stepCode(house, guard);
                if (code == FINE) {
                    house.addStep(guard, tokens.number);
                    tokens.advance();
                }
            }
            if (code == FINE) {
                code = endOfRoomsCode(house, guard, inChange);
            }
            if (code != FINE || !tokens.isWord("phase")) {
                return code;
            }
            tokens.advance();
            code = tokens.numberCode(0, house.periods[guard] - 1);
            if (code == FINE) {
                house.phases[guard] = tokens.number;
                tokens.advance();
            }
            return code;
        }

        private int stepCode(House house, int guard) {
            int code = tokens.numberCode(0, house.rooms - 1);
            if (code != FINE) {
                return code;
            }
            if (house.hasGuard(guard) && house.periods[guard] >= MOST_STEPS) {
                return TOO_MANY;
            }
            return house.canGo(house.lastRoom(guard), tokens.number) ? FINE : NOT_JOINED;
        }

        private int endOfRoomsCode(House house, int guard, boolean inChange) {
            boolean ends = inChange ? tokens.isEnd() : tokens.isSign(';');
            if (!ends && !tokens.isWord("phase")) {
                return NOT_ALLOWED;
            }
            return house.canGo(house.lastRoom(guard), house.walkRoom(guard, 0)) ? FINE : NOT_JOINED;
        }
    }

    /** Reads queries. A test is answered at once by the set of the rooms for which it holds. */
    private static final class QueryReader {
        private final Tokens tokens;
        private final int[] left = new int[MOST_ROOMS];
        private final int[] right = new int[MOST_ROOMS];
        private int error = FINE;
        int answer = NONE;

        QueryReader(Tokens tokens) {
            this.tokens = tokens;
        }

        /** Answers an error code; the present token is then the one with the error. */
        int readQuery(House house, Sightings seen) {
            error = FINE;
            boolean many = tokens.isWord("many");
            if (!many && !tokens.isWord("first")) {
                return NOT_ALLOWED;
            }
            tokens.advance();
            int set = readTest(house, seen, 0);
            if (error == FINE && !tokens.isEnd()) {
                error = NOT_ALLOWED;
            }
            answer = many ? Integer.bitCount(set) : firstOf(set);
            return error;
        }

        private static int firstOf(int set) {
            for (int room = 0; room < MOST_ROOMS; room++) {
                if (has(set, room)) {
                    return room;
                }
            }
            return NONE;
        }

        private int readTest(House house, Sightings seen, int open) {
            int set = readConjunction(house, seen, open);
            for (int i = 0; i < MOST_QUERY_BYTES && error == FINE && tokens.isWord("or"); i++) {
                tokens.advance();
                set |= readConjunction(house, seen, open);
            }
            return set;
        }

        private int readConjunction(House house, Sightings seen, int open) {
            int set = readFactor(house, seen, open);
            for (int i = 0; i < MOST_QUERY_BYTES && error == FINE && tokens.isWord("and"); i++) {
                tokens.advance();
                set &= readFactor(house, seen, open);
            }
            return set;
        }

        private int readFactor(House house, Sightings seen, int open) {
            if (tokens.isWord("not") || tokens.isSign('(')) {
                return readNested(house, seen, open + 1);
            }
            readValues(house, seen, left);
            int order = readOrder();
            readValues(house, seen, right);
            return compareRows(house, order);
        }

        /** Reads a factor with a sign of its own, which is open as the last one of so many. */
        private int readNested(House house, Sightings seen, int open) {
            if (open > MOST_OPEN) {
                error = TOO_MANY;
                return 0;
            }
            boolean negated = tokens.isWord("not");
            tokens.advance();
            if (negated) {
                return house.allRooms() & ~readFactor(house, seen, open);
            }
            int set = readTest(house, seen, open);
            if (error == FINE && !tokens.isSign(')')) {
                error = NOT_ALLOWED;
            }
            if (error == FINE) {
                tokens.advance();
            }
            return set;
        }

        /** Answers -1 for '<', 0 for '=' and 1 for '>'. */
        private int readOrder() {
            if (error != FINE) {
                return 0;
            }
            int order = tokens.isSign('<') ? -1 : tokens.isSign('>') ? 1 : 0;
            if (order == 0 && !tokens.isSign('=')) {
                error = NOT_ALLOWED;
                return 0;
            }
            tokens.advance();
            return order;
        }

        private int compareRows(House house, int order) {
            int set = 0;
            for (int room = 0; room < house.rooms && room < MOST_ROOMS; room++) {
                if (isOrdered(left[room], right[room], order)) {
                    set |= 1 << room;
                }
            }
            return set;
        }

        private static boolean isOrdered(int a, int b, int order) {
            return order < 0 ? a < b : order > 0 ? a > b : a == b;
        }

        /** Fills a row with what the value of the present token is for each room. */
        private void readValues(House house, Sightings seen, int[] row) {
            for (int room = 0; room < house.rooms && room < row.length && error == FINE; room++) {
                row[room] = tokens.isNumber() ? tokens.number : propertyOf(house, seen, room);
                if (row[room] == NONE) {
                    error = NOT_ALLOWED;
                }
            }
            if (error == FINE && tokens.isNumber() && tokens.number > MOST_NUMBER) {
                error = OUT_OF_RANGE;
            }
            if (error == FINE) {
                tokens.advance();
            }
        }

        /** NONE if the present token is no property. */
        private int propertyOf(House house, Sightings seen, int room) {
            if (!house.hasRoom(room)) {
                return NONE;
            }
            if (tokens.isWord("room")) {
                return room;
            }
            if (tokens.isWord("doors")) {
                return house.countOpenDoorsOf(room);
            }
            if (tokens.isWord("limit")) {
                return house.limits[room];
            }
            if (tokens.isWord("gap")) {
                return Math.max(0, seen.gaps[room]);
            }
            if (tokens.isWord("never")) {
                return seen.gaps[room] == NONE ? 1 : 0;
            }
            if (tokens.isWord("late")) {
                return seen.isLate(house, room) ? 1 : 0;
            }
            if (tokens.isWord("seen")) {
                return seen.seen[room];
            }
            if (tokens.isWord("guards")) {
                return house.countGuardsWalking(room);
            }
            if (tokens.isWord("sightings")) {
                return house.sightings[room];
            }
            if (tokens.isWord("run")) {
                return house.runs[room];
            }
            return tokens.isWord("longest") ? house.longestRuns[room] : NONE;
        }
    }
}
