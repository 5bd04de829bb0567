/** Promise 41: query. */
public final class QueryTest {
    public static void main(String[] args) {
        properties();
        comparisons();
        manyAndFirst();
        combinations();
        nesting();
        errors();
        nestingErrors();
        queryRefusesLengths();
        queryChangesNothing();
        Check.end();
    }

    /** Asks for the value of a property of each room. */
    private static void dueProperty(GuardWalks x, String property, int... values) {
        for (int room = 0; room < values.length; room++) {
            Check.due(property + " of room " + room,
                Check.query(x, "many room = " + room + " and " + property + " = " + values[room]), 1);
        }
    }

    private static void properties() {
        GuardWalks x = Check.loaded(RoundsTest.HOUSE);
        x.pass(8);
        dueProperty(x, "room", 0, 1, 2, 3, 4);
        dueProperty(x, "doors", 2, 2, 2, 2, 0);
        dueProperty(x, "limit", 2, 2, 99, 99, 99);
        dueProperty(x, "gap", 3, 2, 1, 3, 0);
        dueProperty(x, "never", 0, 0, 0, 0, 1);
        dueProperty(x, "late", 1, 0, 0, 0, 1);
        dueProperty(x, "seen", 3, 6, 9, 3, 0);
        dueProperty(x, "guards", 1, 2, 2, 1, 0);
        dueProperty(x, "sightings", 2, 4, 5, 2, 0);
        dueProperty(x, "run", 3, 0, 1, 0, 8);
        dueProperty(x, "longest", 3, 2, 1, 3, 8);
        x.openDoor(4);
        x.openDoor(5);
        dueProperty(x, "doors", 3, 3, 2, 3, 1);
        Check.change(x, "walk 1 3");
        dueProperty(x, "guards", 1, 1, 1, 2, 0);
    }

    private static void comparisons() {
        GuardWalks x = Check.loaded("house 6;");
        Check.due("<", Check.query(x, "many room < 2"), 2);
        Check.due("=", Check.query(x, "many room = 2"), 1);
        Check.due(">", Check.query(x, "many room > 2"), 3);
        Check.due("numbers on both sides", Check.query(x, "many 3 < 4"), 6);
        Check.due("numbers on both sides", Check.query(x, "many 4 < 4"), 0);
        Check.due("a number at the left", Check.query(x, "many 2 < room"), 3);
        Check.due("properties on both sides", Check.query(x, "many limit > room"), 6);
        Check.due("the same property", Check.query(x, "many room > room"), 0);
        Check.due("9999", Check.query(x, "many 9999 > 9998"), 6);
        Check.due("leading zeros", Check.query(x, "many room = 0000000000005"), 1);
        Check.due("no blanks", Check.query(x, "many room>2and room<4"), 1);
        Check.feed(x, "many room < 12");
        Check.due("a number up to the end of the first bytes", x.query(13), 1);
        Check.feed(x, "many room = runs");
        Check.due("a word up to the end of the first bytes", x.query(15), 1);
    }

    private static void manyAndFirst() {
        GuardWalks x = Check.loaded("house 12;");
        Check.due("many of none", Check.query(x, "many room > 11"), 0);
        Check.due("first of none", Check.query(x, "first room > 11"), -1);
        Check.due("many of all", Check.query(x, "many room < 12"), 12);
        Check.due("first of all", Check.query(x, "first room < 12"), 0);
        Check.due("first", Check.query(x, "first room > 4"), 5);
        Check.due("first, the last room", Check.query(x, "first room > 10"), 11);
        Check.due("a new object", Check.query(new GuardWalks(), "many late = 1"), 1);
    }

    private static void combinations() {
        GuardWalks x = Check.loaded("house 10;");
        Check.due("or", Check.query(x, "many room < 2 or room > 6"), 5);
        Check.due("and", Check.query(x, "many room > 2 and room < 6"), 3);
        Check.due("and before or", Check.query(x, "many room = 1 or room = 2 and room = 3"), 1);
        Check.due("and before or, behind", Check.query(x, "many room = 1 and room = 2 or room = 3"), 1);
        Check.due("parentheses", Check.query(x, "many (room = 1 or room = 2) and room < 2"), 1);
        Check.due("not binds the factor", Check.query(x, "many not room = 1 and room = 1"), 0);
        Check.due("not", Check.query(x, "many not room = 1"), 9);
        Check.due("not not", Check.query(x, "many not not room = 1"), 1);
        Check.due("not of parentheses", Check.query(x, "many not (room = 1 or room = 2)"), 8);
        Check.due("a chain of or", Check.query(x, "many room=1 or room=3 or room=5 or room=7 or room=3"), 4);
        Check.due("a chain of and", Check.query(x, "first room>1 and room>2 and room>3 and room<9"), 4);
    }

    private static void nesting() {
        GuardWalks x = Check.loaded("house 4;");
        Check.due("six parentheses", Check.query(x, "many ((((((room = 1))))))"), 1);
        Check.due("six not", Check.query(x, "many not not not not not not room = 1"), 1);
        Check.due("six of both", Check.query(x, "many not (not (not (room = 1)))"), 3);
        Check.due("closed ones do not count",
            Check.query(x, "many ((((((room=1)))))) or ((((((room=2)))))) and not not not (((room=1)))"), 2);
        Check.due("a not is closed behind its factor",
            Check.query(x, "many not not not not not not room=1 and not not not not not not room=1"), 1);
        Check.due("a not is open until the end of the parentheses",
            Check.query(x, "many not (((((room=1 or (room=2))))))"), GuardWalks.HIDDEN - 3);
    }

    private static void errors() {
        Check.dueQueryError("", 1, 0);
        Check.dueQueryError("all room = 1", 1, 0);
        Check.dueQueryError("fany room = 1", 1, 0);
        Check.dueQueryError("many", 1, 4);
        Check.dueQueryError("many = 1", 1, 5);
        Check.dueQueryError("many room", 1, 9);
        Check.dueQueryError("many room 1", 1, 10);
        Check.dueQueryError("many room = ", 1, 12);
        Check.dueQueryError("many room = =", 1, 12);
        Check.dueQueryError("many room = 1 2", 1, 14);
        Check.dueQueryError("many room = 1 or", 1, 16);
        Check.dueQueryError("many room = 1 and or", 1, 18);
        Check.dueQueryError("many room = 1 not room = 1", 1, 14);
        Check.dueQueryError("many rooms = 1", 1, 5);
        Check.dueQueryError("many gap = doo", 1, 11);
        Check.dueQueryError("many phase = 1", 1, 5);
        Check.dueQueryError("many 10000 = 1", 2, 5);
        Check.dueQueryError("many room = 10000", 2, 12);
        Check.dueQueryError("many room = 99999999999999999999", 2, 12);
        Check.dueQueryError("many 1 = 1 first", 1, 11);
        Check.dueQueryError("many many", 1, 5);
        Check.dueQueryError("many room = 1;", 1, 13);
        Check.dueQueryError("many room = 1)", 1, 13);
        Check.dueQueryError("many (room = 1", 1, 14);
        Check.dueQueryError("many (room = 1 2", 1, 15);
        Check.dueQueryError("many ()", 1, 6);
        Check.dueQueryError("many room <> 1", 1, 11);
        Check.dueQueryError("many room = 1 10000", 1, 14);
        Check.dueQueryError("10000", 1, 0);
    }

    private static void nestingErrors() {
        Check.dueQueryError("many (((((((room = 1)))))))", 3, 11);
        Check.dueQueryError("many not not not not not not not room = 1", 3, 29);
        Check.dueQueryError("many (not (not (not (", 3, 20);
        Check.dueQueryError("many ((((((not", 3, 11);
        Check.dueQueryError("many ((((((and", 1, 11);
        Check.dueQueryError("many ((((((room = 1 or (room = 1)))))))", 3, 23);
        Check.dueQueryError("many (room = 1) (", 1, 16);
    }

    private static void queryRefusesLengths() {
        GuardWalks x = Check.loaded("house 3;");
        Check.dueIllegal("query(1) of an empty buffer", () -> x.query(1));
        for (int i = 0; i < 11; i++) {
            Check.feed(x, i == 0 ? "many room = 1       " : "                    ");
        }
        Check.dueIllegal("query(-1)", () -> x.query(-1));
        Check.dueIllegal("query(201) of 220 bytes", () -> x.query(201));
        Check.dueIllegal("query(221)", () -> x.query(221));
        Check.due("errorPosition() after refused calls", x.errorPosition(), -1);
        Check.due("query(200) of 220 bytes", x.query(200), 1);
        Check.due("buffer after query", x.feed(0, 0, 0, 0, 0), 20);
        Check.dueIllegal("query(21) of 20 bytes", () -> x.query(21));
    }

    private static void queryChangesNothing() {
        GuardWalks x = Check.loaded(RoundsTest.HOUSE);
        x.pass(3);
        String before = Check.state(x);
        Check.query(x, "many late = 1");
        Check.query(x, "many late");
        Check.due("state after queries", Check.state(x), before);
    }
}
