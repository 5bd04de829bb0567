/** The edges that the grammar of queries and promise 41 name: a method for each sentence. */
public final class QueryEdgesTest {
    // Room 0 has a gap of 2, room 1 of 1, room 2 none; limits 2, 0 and 99.
    private static final String HOUSE = "house 3;door 0 1;door 0 1;door 1 2 closed;limit 0 2;limit 1 0;guard 0 1 1;guard 0;";

    public static void main(String[] args) {
        length();
        refusedLengthChangesNothing();
        emptiesTheBuffer();
        manyCounts();
        firstIsTheSmallest();
        firstOfNone();
        numbersOfValues();
        roomNumbers();
        limits();
        openDoors();
        gapIsZeroWithoutOne();
        never();
        late();
        seenInACycle();
        guardsOfWalks();
        runsAndSightings();
        comparisons();
        andBeforeOr();
        notOfAFactor();
        notAllowedHere();
        endsTooEarly();
        sixthAndSeventhNot();
        sixthAndSeventhParenthesis();
        openUntilTheEndOfTheFactor();
        closedByTheParenthesis();
        smallestCodeCounts();
        errorNumbers();
        errorChangesNothing();
        Check.end();
    }

    private static void length() {
        Check.sentence("number of bytes to read, at most 200");
        GuardWalks x = Check.loaded("house 3;");
        String text = "many room < 2" + " ".repeat(186) + "0";
        Check.feed(x, text);
        Check.due("query(200) up to the last byte", x.query(200), GuardWalks.HIDDEN - 1);
        Check.due("errorPosition()", x.errorPosition(), 199);
        Check.feed(x, text);
        Check.due("query(199) of 200", x.query(199), 2);
        Check.feed(x, text + "0");
        Check.dueIllegal("query(201) of 220", () -> x.query(201));
        Check.dueIllegal("query(220) of 220", () -> x.query(220));
        Check.dueIllegal("query(221) of 220", () -> x.query(221));
        Check.due("query(13) of 220", x.query(13), 2);
    }

    private static void refusedLengthChangesNothing() {
        Check.sentence("if length is negative, greater than 200, or greater than the number of bytes in the buffer (nothing changes)");
        GuardWalks x = Check.loaded("house 3;");
        Check.query(x, "many ?");
        Check.feed(x, "many room < 2");
        int[] wrong = {-1, 21, 200, 201, Integer.MIN_VALUE, Integer.MAX_VALUE};
        for (int length : wrong) {
            Check.dueIllegal("query(" + length + ")", () -> x.query(length));
        }
        Check.due("errorPosition()", x.errorPosition(), 5);
        Check.due("query(20) of the same bytes", x.query(20), 2);
    }

    private static void emptiesTheBuffer() {
        Check.sentence("The buffer is empty afterwards, also after an error");
        GuardWalks x = Check.loaded("house 3;");
        Check.feed(x, "many room < 2 and more");
        Check.due("query(13)", x.query(13), 2);
        Check.dueIllegal("query(1)", () -> x.query(1));
        Check.feed(x, "many room < 2 and more");
        Check.due("query(20)", x.query(20), GuardWalks.HIDDEN - 1);
        Check.dueIllegal("query(1) after an error", () -> x.query(1));
        Check.due("feed", x.feed(0, 0, 0, 0, 0), 20);
    }

    private static void due(GuardWalks x, String text, int answer) {
        Check.due(text, Check.query(x, text), answer);
    }

    private static void manyCounts() {
        Check.sentence("for 'many' the number of rooms for which the test holds");
        GuardWalks x = Check.loaded("house 12;");
        due(x, "many 1 = 1", 12);
        due(x, "many 1 = 0", 0);
        due(x, "many room = 11", 1);
        due(x, "many room = 12", 0);
        due(x, "many room = 0", 1);
        due(new GuardWalks(), "many 1 = 1", 1);
    }

    private static void firstIsTheSmallest() {
        Check.sentence("for 'first' the smallest such room");
        GuardWalks x = Check.loaded("house 12;");
        due(x, "first 1 = 1", 0);
        due(x, "first room > 0", 1);
        due(x, "first room > 10", 11);
        due(x, "first room = 7 or room = 3", 3);
    }

    private static void firstOfNone() {
        Check.sentence("or NONE");
        GuardWalks x = Check.loaded("house 12;");
        due(x, "first room > 11", -1);
        due(x, "first not 1 = 1", -1);
        Check.due("errorPosition()", x.errorPosition(), -1);
    }

    private static void numbersOfValues() {
        Check.sentence("a number from 0 to 9999");
        GuardWalks x = Check.loaded("house 3;");
        due(x, "many 9999 > 9998", 3);
        due(x, "many 0 < 9999", 3);
        due(x, "many 0 = 00000", 3);
        due(x, "many 00000000000000009999 = 9999", 3);
        Check.dueQueryError("many 10000 > 1", 2, 5);
        Check.dueQueryError("many 1 > 10000", 2, 9);
        Check.dueQueryError("many 1 > 010000", 2, 9);
        Check.dueQueryError("many 1 = 4294967297", 2, 9);
        Check.dueQueryError("many 1 = 99990", 2, 9);
        Check.dueQueryError("many 99999 = 1", 2, 5);
        Check.dueQueryError("many 00099990000 = 1", 2, 5);
        Check.dueQueryError("many 1 = 18446744073709551617", 2, 9);
        Check.dueQueryError("many -1 < 0", 1, 5);
    }

    private static void roomNumbers() {
        Check.sentence("'room' (its number)");
        GuardWalks x = Check.loaded("house 12;");
        for (int room = 0; room < 12; room++) {
            due(x, "first room = " + room, room);
        }
    }

    private static void limits() {
        Check.sentence("'limit'");
        GuardWalks x = Check.loaded("house 3;limit 1 0;limit 2 98;");
        due(x, "first limit = 99", 0);
        due(x, "first limit = 0", 1);
        due(x, "first limit = 98", 2);
        x.setLimit(0, 50);
        due(x, "first limit = 50", 0);
    }

    private static void openDoors() {
        Check.sentence("'doors' (its open doors)");
        GuardWalks x = Check.loaded(HOUSE);
        due(x, "many doors = 2", 2);
        due(x, "first doors = 0", 2);
        x.openDoor(2);
        due(x, "first doors = 3", 1);
        due(x, "first doors = 1", 2);
        Check.load(x, "house 3;" + "door 0 1;".repeat(20));
        due(x, "many doors = 20", 2);
    }

    private static void gapIsZeroWithoutOne() {
        Check.sentence("'gap' (0 if it has none)");
        GuardWalks x = Check.loaded("house 4;door 0 1;guard 0 1 1;guard 3;");
        due(x, "first gap = 2", 0);
        due(x, "first gap = 1", 1);
        due(x, "many gap = 0", 2);
        due(x, "first gap = 0", 2);
    }

    private static void never() {
        Check.sentence("'never' (1 if it has none, otherwise 0)");
        GuardWalks x = Check.loaded("house 4;door 0 1;guard 0 1 1;guard 3;");
        due(x, "many never = 1", 1);
        due(x, "first never = 1", 2);
        due(x, "many never = 0", 3);
    }

    private static void late() {
        Check.sentence("'late' (1 or 0)");
        GuardWalks x = Check.loaded("house 4;door 0 1;limit 0 2;limit 1 0;limit 3 0;guard 0 1 1;guard 3;");
        due(x, "many late = 1", 2);
        due(x, "first late = 1", 1);
        due(x, "many late = 0", 2);
        x.setLimit(0, 1);
        due(x, "many late = 1", 3);
    }

    private static void seenInACycle() {
        Check.sentence("'seen' (the minutes of a cycle at which it is seen)");
        GuardWalks x = Check.loaded("house 3;door 0 1;guard 0 1 1;guard 0 1;");
        // of 6 minutes: guard 0 in 0 1 1 0 1 1, guard 1 in 0 1 0 1 0 1
        due(x, "many room = 0 and seen = 4", 1);
        due(x, "many room = 1 and seen = 5", 1);
        due(x, "many room = 2 and seen = 0", 1);
    }

    private static void guardsOfWalks() {
        Check.sentence("'guards' (how many guards have it in their walks)");
        GuardWalks x = Check.loaded("house 3;door 0 1;guard 0 1 0 1;guard 0;guard 0 0 1;guard 0;");
        due(x, "many room = 0 and guards = 4", 1);
        due(x, "many room = 1 and guards = 2", 1);
        due(x, "many room = 2 and guards = 0", 1);
    }

    private static void runsAndSightings() {
        Check.sentence("'sightings', 'run' (its unseen run now), 'longest' (its longest run)");
        GuardWalks x = Check.loaded("house 3;door 0 1;guard 0 1 1;");
        due(x, "many sightings = 0 and run = 0 and longest = 0", 3);
        x.pass(5);
        // 0 1 1 0 1 have passed
        due(x, "many room = 0 and sightings = 2 and run = 1 and longest = 2", 1);
        due(x, "many room = 1 and sightings = 3 and run = 0 and longest = 1", 1);
        due(x, "many room = 2 and sightings = 0 and run = 5 and longest = 5", 1);
        x.undo();
        due(x, "many sightings = 0 and run = 0 and longest = 0", 3);
    }

    private static void comparisons() {
        Check.sentence("value ('<' | '=' | '>') value");
        GuardWalks x = Check.loaded("house 5;");
        due(x, "many room < 2", 2);
        due(x, "many room = 2", 1);
        due(x, "many room > 2", 2);
        due(x, "many 2 < room", 2);
        due(x, "many 2 > room", 2);
        due(x, "many room < room", 0);
        due(x, "many room > room", 0);
        due(x, "many room = room", 5);
        Check.dueQueryError("many room == 1", 1, 11);
        Check.dueQueryError("many room <= 1", 1, 11);
        Check.dueQueryError("many room ! 1", 1, 10);
        Check.dueQueryError("many room = 1 = 1", 1, 14);
    }

    private static void andBeforeOr() {
        Check.sentence("test: conjunction ('or' conjunction)*. conjunction: factor ('and' factor)*.");
        GuardWalks x = Check.loaded("house 8;");
        due(x, "many room = 1 or room = 2 and room = 3", 1);
        due(x, "many room = 3 and room = 2 or room = 1", 1);
        due(x, "many (room = 1 or room = 2) and room = 3", 0);
        due(x, "many room=0 or room=1 or room=2 and room>1 and room<3 or room=7", 4);
    }

    private static void notOfAFactor() {
        Check.sentence("factor: 'not' factor");
        GuardWalks x = Check.loaded("house 8;");
        due(x, "many not room = 1", 7);
        due(x, "many not room = 1 and room = 1", 0);
        due(x, "many not room = 1 or room = 1", 8);
        due(x, "many not (room = 1 and room = 1)", 7);
        due(x, "many not not room = 1", 1);
        due(x, "many room = 1 and not room = 2", 1);
    }

    private static void notAllowedHere() {
        Check.sentence("1: the token is not allowed here (query)");
        Check.dueQueryError("room = 1", 1, 0);
        Check.dueQueryError("every room = 1", 1, 0);
        Check.dueQueryError("(many room = 1)", 1, 0);
        Check.dueQueryError("many first room = 1", 1, 5);
        Check.dueQueryError("many and room = 1", 1, 5);
        Check.dueQueryError("many or room = 1", 1, 5);
        Check.dueQueryError("many )", 1, 5);
        Check.dueQueryError("many ()", 1, 6);
        Check.dueQueryError("many (room) = 1", 1, 10);
        Check.dueQueryError("many room = (1)", 1, 12);
        Check.dueQueryError("many room = not 1", 1, 12);
        Check.dueQueryError("many room not = 1", 1, 10);
        Check.dueQueryError("many room = 1 room = 2", 1, 14);
        Check.dueQueryError("many room 1", 1, 10);
        Check.dueQueryError("many room room", 1, 10);
        Check.dueQueryError("fany room = 1", 1, 0);
        Check.dueQueryError("mant room = 1", 1, 0);
        Check.dueQueryError("girst room = 1", 1, 0);
        Check.dueQueryError("many room = 1 and and room = 2", 1, 18);
        Check.dueQueryError("many (room = 1))", 1, 15);
        Check.dueQueryError("many room = 1 )", 1, 14);
        Check.dueQueryError("many room = 1;", 1, 13);
        Check.dueQueryError("many walk = 1", 1, 5);
        Check.dueQueryError("many gaps = 1", 1, 5);
        Check.dueQueryError("many seen = longes", 1, 12);
    }

    private static void endsTooEarly() {
        Check.sentence("1: or the text ends too early (query)");
        String[] parts = {"many", "not", "(", "room", "=", "1", "or", "gap", ">", "7", ")", "and", "not", "late", "<", "1"};
        StringBuilder text = new StringBuilder();
        GuardWalks x = Check.loaded("house 3;");
        for (int i = 0; i < parts.length; i++) {
            text.append(parts[i]).append(' ');
            String whole = text.toString();
            boolean ends = parts[i].equals(")") || i == parts.length - 1;
            if (ends) {
                due(x, whole, 2);
            } else {
                Check.dueQueryError(whole, 1, whole.length());
                Check.dueQueryError(whole.trim(), 1, whole.length() - 1);
            }
        }
    }

    private static void sixthAndSeventhNot() {
        Check.sentence("3: in a query a 'not' that would be the seventh one open at the same time");
        GuardWalks x = Check.loaded("house 3;");
        due(x, "many not not not not not room = 1", 2);
        due(x, "many not not not not not not room = 1", 1);
        Check.dueQueryError("many not not not not not not not room = 1", 3, 29);
        Check.dueQueryError("many not not not not not not not", 3, 29);
        Check.dueQueryError("many ((((((not room = 1))))))", 3, 11);
        Check.dueQueryError("many not(not(not(not room = 1)))", 3, 17);
    }

    private static void sixthAndSeventhParenthesis() {
        Check.sentence("3: or '(' that would be the seventh one open at the same time");
        GuardWalks x = Check.loaded("house 3;");
        due(x, "many (((((room = 1)))))", 1);
        due(x, "many ((((((room = 1))))))", 1);
        Check.dueQueryError("many (((((((room = 1)))))))", 3, 11);
        Check.dueQueryError("many (((((((", 3, 11);
        Check.dueQueryError("many not not not not not not (room = 1)", 3, 29);
        Check.dueQueryError("many not(not(not((room = 1))))", 3, 17);
    }

    private static void openUntilTheEndOfTheFactor() {
        Check.sentence("A 'not' is open until the end of its factor");
        GuardWalks x = Check.loaded("house 3;");
        due(x, "many not not not not not not room = 1 and not not not not not not room = 1", 1);
        due(x, "many not not not not not not room = 1 or ((((((room = 2))))))", 2);
        due(x, "many not not not (not room = 1 or not room = 2 and not (room = 0))", 0);
        due(x, "many (((((not room=1 and not room=2 or not room=0)))))", 3);
        Check.dueQueryError("many not (((((room = 1 or not room = 2)))))", 3, 26);
        Check.dueQueryError("many not (((((room = 1 and (room = 2))))))", 3, 27);
    }

    private static void closedByTheParenthesis() {
        Check.sentence("open at the same time (a '(' until its ')')");
        GuardWalks x = Check.loaded("house 3;");
        due(x, "many ((((((room=0)))))) or ((((((room=1)))))) or ((((((room=2))))))", 3);
        due(x, "many (((((room=0) or (room=1)) or (room=2)) and (room<2)) and ((room>0)))", 1);
        due(x, "many (((((room=0)or(room=1))or(room=2))and(room<2))and(((((room>0))))))", 1);
        Check.dueQueryError("many (room=0 and (((((room>0 or (room=1)))))))", 3, 32);
    }

    private static void smallestCodeCounts() {
        Check.sentence("If several codes apply to one token, the smallest one counts (query)");
        Check.dueQueryError("many ((((((room (", 1, 16);
        Check.dueQueryError("many ((((((room = (", 1, 18);
        Check.dueQueryError("many ((((((room = 1 not", 1, 20);
        Check.dueQueryError("many ((((((room = 1 (", 1, 20);
        Check.dueQueryError("many ((((((10000", 2, 11);
    }

    private static void errorNumbers() {
        Check.sentence("HIDDEN minus the error code if the text has an error");
        GuardWalks x = Check.loaded("house 3;");
        due(x, "many", -1000000001);
        due(x, "many 10000 = 1", -1000000002);
        due(x, "many (((((((", -1000000003);
    }

    private static void errorChangesNothing() {
        Check.sentence("Reads the first bytes of the buffer as a query and evaluates it (and changes nothing else)");
        GuardWalks x = Check.loaded(HOUSE);
        x.pass(4);
        String before = Check.state(x);
        Check.query(x, "many late = 1");
        Check.query(x, "many 10000 = 1");
        Check.query(x, "many");
        Check.due("state", Check.state(x), before);
    }
}
