/** The edges that "Input text" and the promises 1 to 4 name: a method for each sentence. */
public final class TextEdgesTest {
    private static final String JOINED = "house 4;door 0 1;door 2 1;";

    public static void main(String[] args) {
        newObject();
        bytesOfAFeed();
        fullBuffer();
        firstBytesOfTheBuffer();
        loadReplacesEverything();
        loadEmptiesTheBuffer();
        loadWithAnErrorChangesNothing();
        loadRefusesLengths();
        words();
        numbers();
        leadingZeros();
        otherBytes();
        spacesAndLineFeeds();
        clauses();
        closedIsOptional();
        whatIsNotTold();
        lastLimitCounts();
        firstTokenWithAnError();
        notAllowedHere();
        emptyText();
        textThatEndsTooEarly();
        numbersOutOfRange();
        keywordsTooMany();
        eleventhRoom();
        secondRoomOfADoor();
        roomNotJoined();
        doorsToldAhead();
        tokenBehindTheLastRoom();
        smallestCodeCounts();
        errorPosition();
        Check.end();
    }

    private static void newObject() {
        Check.sentence("Creates a house of one room, as by the text \"house 1;\"");
        GuardWalks x = new GuardWalks();
        Check.due("state", Check.state(x), Check.state(Check.loaded("house 1;")));
        Check.due("rooms", x.size(0), 1);
        Check.due("room(0, 0)", x.room(0, 0), 99);
        Check.dueNoSuch("room(1, 0)", () -> x.room(1, 0));
        int[] sizes = {1, 0, 0, 1, 0, 0, 1, 0, 0, 0};
        for (int what = 0; what < sizes.length; what++) {
            Check.due("size(" + what + ")", x.size(what), sizes[what]);
        }
        Check.due("undoCount()", x.undoCount(), 0);
        Check.due("undo()", x.undo(), -1);
        Check.due("restoreSnapshot()", x.restoreSnapshot(), false);
        Check.due("formattedByte(0)", x.formattedByte(0), -1);
        Check.due("errorPosition()", x.errorPosition(), -1);
        Check.due("an empty buffer", x.feed(0, 0, 0, 0, 0), 20);
    }

    private static void bytesOfAFeed() {
        Check.sentence("the four bytes of each parameter, the most significant byte first");
        GuardWalks x = new GuardWalks();
        // "house 12;door 0 11 ;" a letter a byte
        x.feed(0x686f7573, 0x65203132, 0x3b646f6f, 0x72203020, 0x3131203b);
        Check.due("load(20)", x.load(20), 12);
        Check.due("door(0, 1)", x.door(0, 1), 11);
        // each byte from 128 on is a token that is not allowed
        int[] words = {0x80202020, 0x20ff2020, 0x2020c320, 0x202020a0};
        for (int i = 0; i < words.length; i++) {
            x.feed(words[i], 0, 0, 0, 0);
            Check.due("load(20)", x.load(20), -11);
            Check.due("errorPosition()", x.errorPosition(), i);
        }
    }

    private static void fullBuffer() {
        Check.sentence("NONE if it would exceed 600, and then nothing is appended");
        GuardWalks x = new GuardWalks();
        Check.feed(x, "house 3;            ");
        for (int i = 2; i <= 29; i++) {
            x.feed(0x20202020, 0x20202020, 0x20202020, 0x20202020, 0x20202020);
        }
        Check.due("the 30th feed", x.feed(0x20202020, 0x20202020, 0x20202020, 0x20202020, 0x20202020), 600);
        Check.due("the 31st feed", x.feed(0x3b3b3b3b, 0x3b3b3b3b, 0x3b3b3b3b, 0x3b3b3b3b, 0x3b3b3b3b), -1);
        Check.due("the 32nd feed", x.feed(0, 0, 0, 0, 0), -1);
        Check.dueIllegal("load(601)", () -> x.load(601));
        Check.dueIllegal("load(620)", () -> x.load(620));
        Check.due("load(600)", x.load(600), 3);
        Check.due("feed after it", x.feed(0, 0, 0, 0, 0), 20);
    }

    private static void firstBytesOfTheBuffer() {
        Check.sentence("Reads the first bytes of the buffer as a text");
        GuardWalks x = new GuardWalks();
        Check.feed(x, "house 12;guard 5;?");
        Check.due("load(9)", x.load(9), 12);
        Check.due("guards", x.size(2), 0);
        Check.feed(x, "house 12;guard 5;?");
        Check.due("load(17)", x.load(17), 12);
        Check.due("guards", x.size(2), 1);
        Check.feed(x, "house 12;guard 5;?");
        Check.due("load(18)", x.load(18), -11);
        Check.feed(x, "house 12;");
        Check.due("load(8)", x.load(8), -11);
        Check.due("position of the end", x.errorPosition(), 8);
        Check.feed(x, "house 123");
        Check.due("load(8) in a number", x.load(8), -11);
        Check.due("position of the end", x.errorPosition(), 8);
        Check.feed(x, "house 2;doorway");
        Check.due("load(12) in a word", x.load(12), -11);
        Check.due("position of the end", x.errorPosition(), 12);
    }

    private static void loadReplacesEverything() {
        Check.sentence("which replaces everything; the undo history and the snapshot are discarded");
        GuardWalks x = Check.loaded(JOINED + "limit 1 5;guard 0 1 phase 1;");
        x.pass(7);
        x.saveSnapshot();
        x.closeDoor(1);
        Check.due("load", Check.load(x, "house 4;guard 3;"), 4);
        Check.due("state", Check.state(x), Check.state(Check.loaded("house 4;guard 3;")));
        Check.due("undoCount()", x.undoCount(), 0);
        Check.due("undo()", x.undo(), -1);
        Check.due("restoreSnapshot()", x.restoreSnapshot(), false);
        Check.due("isJoined(0, 1)", x.isJoined(0, 1), false);
        Check.due("bestWorst()", x.bestWorst(), 0);
        // a house that was larger leaves nothing behind
        Check.load(x, "house 12;door 0 1;door 1 0;guard 0 1 0 1 1;guard 0 0 0;guard 7;guard 11 11 phase 1;limit 3 3;");
        x.pass(4);
        x.adopt();
        Check.due("load", Check.load(x, "house 4;guard 3;"), 4);
        Check.due("cycle", x.size(3), 1);
        Check.due("sightings", x.size(9), 0);
        Check.due("query of the guards", Check.query(x, "many guards > 0"), 1);
        Check.due("query of the limits", Check.query(x, "many limit < 99"), 0);
        Check.due("format()", Check.formatted(x), "0! 1! 2! 3a");
    }

    private static void loadEmptiesTheBuffer() {
        Check.sentence("The buffer is empty afterwards, also after an error");
        GuardWalks x = new GuardWalks();
        Check.feed(x, "house 2;door 0 1;guard 1;limit 0 0;");
        x.load(8);
        Check.dueIllegal("load(1)", () -> x.load(1));
        Check.feed(x, "house 0;door 0 1;guard 1;limit 0 0;");
        Check.due("load", x.load(8), -12);
        Check.dueIllegal("load(1) after an error", () -> x.load(1));
        Check.due("feed after an error", x.feed(0, 0, 0, 0, 0), 20);
    }

    private static void loadWithAnErrorChangesNothing() {
        Check.sentence("then only the buffer and the error position change");
        String house = JOINED + "limit 1 5;guard 0 1 phase 1;";
        String[] wrong = {"house 2;?", "house 2;door 0 0;", "house 2;limit 1 7;guard 2;", "house 9;guard 1;guard 0;guard 0 1;",
            "house 4;door 0 1;guard 0 1;guard 1 phase 1;"};
        for (String text : wrong) {
            GuardWalks x = Check.loaded(house);
            x.pass(3);
            x.saveSnapshot();
            x.shift(0, 0);
            x.format();
            String before = Check.state(x);
            Check.due("load of " + text, Check.load(x, text) < -10, true);
            Check.due("state after " + text, Check.state(x), before);
            Check.due("bestWorst() after " + text, x.bestWorst(), 1);
            Check.due("formattedByte(3) after " + text, x.formattedByte(3), 'a');
            Check.due("undo() after " + text, x.undo(), 1);
            Check.due("phase after undo", x.guard(0, 1), 1);
            Check.due("restoreSnapshot() after " + text, x.restoreSnapshot(), true);
            Check.due("minute after restoreSnapshot", x.size(4), 3);
        }
    }

    private static void loadRefusesLengths() {
        Check.sentence("if length is negative or greater than the number of bytes in the buffer (nothing changes)");
        GuardWalks x = new GuardWalks();
        Check.load(x, "house 2;?");
        Check.feed(x, "house 3;");
        int[] wrong = {-1, 21, 600, 601, Integer.MIN_VALUE, Integer.MAX_VALUE};
        for (int length : wrong) {
            Check.dueIllegal("load(" + length + ")", () -> x.load(length));
        }
        Check.due("errorPosition()", x.errorPosition(), 8);
        Check.due("rooms", x.size(0), 1);
        Check.due("load(20) of the same bytes", x.load(20), 3);
        Check.dueIllegal("load(1) of an empty buffer", () -> x.load(1));
        Check.due("load(0) of an empty buffer", x.load(0), -11);
    }

    private static void words() {
        Check.sentence("a word is a maximal run of the letters 'a' to 'z'");
        Check.dueLoadError("houses 3;", 1, 0);
        Check.dueLoadError("hous 3;", 1, 0);
        Check.dueLoadError("mouse 3;", 1, 0);
        Check.dueLoadError("housf 3;", 1, 0);
        Check.dueLoadError("house 3;moor 0 1;", 1, 8);
        Check.dueLoadError("house 3;timit 0 1;", 1, 8);
        Check.dueLoadError("house 3;huard 0;", 1, 8);
        Check.dueLoadError("house 3;door 0 1 dlosed;", 1, 17);
        Check.dueLoadError("house 3;guard 0 qhase 0;", 1, 16);
        Check.dueLoadError("ahouse 3;", 1, 0);
        Check.dueLoadError("House 3;", 1, 0);
        Check.dueLoadError("houseZ 3;", 1, 5);
        Check.dueLoadError("house` 3;", 1, 5);
        Check.dueLoadError("house{ 3;", 1, 5);
        Check.dueLoadError("ho use 3;", 1, 0);
        Check.dueLoadError("house 3;doora 0 1;", 1, 8);
        Check.dueLoadError("house 3;doorz 0 1;", 1, 8);
        Check.dueLoadError("house 3;door 0 1closeddoor 0 1;", 1, 16);
        Check.due("words beside numbers", Check.load(new GuardWalks(), "house3;door0 1closed;guard0phase0;limit0 0;"), 3);
    }

    private static void numbers() {
        Check.sentence("a number is a maximal run of decimal digits");
        Check.due("two digits", Check.load(new GuardWalks(), "house 10;limit 9 90;"), 10);
        Check.dueLoadError("house 1 0;", 1, 8);
        Check.dueLoadError("house 100;", 2, 6);
        Check.dueLoadError("house -3;", 1, 6);
        Check.dueLoadError("house +3;", 1, 6);
        Check.dueLoadError("house 3/;", 1, 7);
        Check.dueLoadError("house 3:;", 1, 7);
        Check.dueLoadError("house 3.0;", 1, 7);
        Check.dueLoadError("house 3e0;", 1, 7);
    }

    private static void leadingZeros() {
        Check.sentence("leading zeros are allowed");
        String zeros = "0".repeat(60);
        GuardWalks x = Check.loaded("house " + zeros + "12;door 00 011;limit 0" + zeros + " 0099;guard 00 00011 phase 01;");
        Check.due("rooms", x.size(0), 12);
        Check.due("door(0, 1)", x.door(0, 1), 11);
        Check.due("walk(0, 1)", x.walk(0, 1), 11);
        Check.due("phase", x.guard(0, 1), 1);
        Check.dueLoadError("house 00;", 2, 6);
        Check.dueLoadError("house 013;", 2, 6);
        Check.dueLoadError("house 3;limit 0 0100;", 2, 16);
    }

    private static void otherBytes() {
        Check.sentence("every other byte except space (32) and line feed (10) is a token by itself");
        for (int sign = 0; sign < 256; sign++) {
            boolean blank = sign == ' ' || sign == '\n';
            boolean letter = sign >= 'a' && sign <= 'z';
            boolean digit = sign >= '0' && sign <= '9';
            if (blank) {
                Check.due("byte " + sign, Check.load(new GuardWalks(), "house" + (char) sign + "3;" + (char) sign), 3);
            } else if (digit) {
                Check.dueLoadError("house 3" + (char) sign + (char) sign + ";", 2, 6);
            } else if (letter) {
                Check.dueLoadError("house" + (char) sign + "3;", 1, 0);
            } else {
                Check.dueLoadError("house" + (char) sign + "3;", 1, 5);
                Check.dueLoadError("house 3;" + (char) sign + (char) sign, 1, 8);
            }
        }
        // two signs are two tokens
        Check.dueLoadError("house 3;;", 1, 8);
        Check.dueLoadError("house 3;limit 0 0;;", 1, 18);
    }

    private static void spacesAndLineFeeds() {
        Check.sentence("Spaces and line feeds may appear before, between and behind tokens");
        Check.due("before and behind", Check.load(new GuardWalks(), " \n house 3; \n\n "), 3);
        Check.due("between", Check.load(new GuardWalks(), "house\n\n3 ; door\n0  1\nclosed\n;\nguard \n0 \nphase \n 0 ;"), 3);
        Check.due("nowhere", Check.load(new GuardWalks(), "house3;door0 1closed;guard0phase0;"), 3);
        Check.dueLoadError("  \n house 3;  door 0 0;", 4, 21);
    }

    private static void clauses() {
        Check.sentence("text: 'house' rooms ';' clause*");
        Check.due("no clause", Check.load(new GuardWalks(), "house 3;"), 3);
        GuardWalks x = Check.loaded("house 3;guard 2;limit 2 1;door 0 1;limit 0 2;guard 0 1;door 1 2 closed;guard 1;");
        Check.due("doors", x.size(1), 2);
        Check.due("guards", x.size(2), 3);
        Check.due("a guard told later", x.walk(1, 1), 1);
        // the shortest clauses, as many as the buffer holds
        Check.due("many clauses", Check.load(x, "house 3;" + "limit 0 7;".repeat(58) + "limit 1 3;"), 3);
        Check.due("the last one of many", x.room(1, 0), 3);
    }

    private static void closedIsOptional() {
        Check.sentence("'door' ROOM ROOM ['closed'] ';'");
        GuardWalks x = Check.loaded("house 3;door 0 1;door 1 2 closed;");
        Check.due("an open door", x.door(0, 2), 1);
        Check.due("a closed door", x.door(1, 2), 0);
        Check.dueLoadError("house 3;door 0 1 closed closed;", 1, 24);
        Check.dueLoadError("house 3;door 0 1 open;", 1, 17);
    }

    private static void whatIsNotTold() {
        Check.sentence("A limit that is not told is 99, a phase that is not told is 0");
        GuardWalks x = Check.loaded("house 12;limit 1 3;guard 0;guard 0 0 phase 1;guard 0 0;");
        Check.due("room(0, 0)", x.room(0, 0), 99);
        Check.due("room(11, 0)", x.room(11, 0), 99);
        Check.due("guard(0, 1)", x.guard(0, 1), 0);
        Check.due("guard(2, 1)", x.guard(2, 1), 0);
        Check.due("change of a walk with a phase", Check.change(x, "walk 1 0 0"), 2);
        Check.due("guard(1, 1)", x.guard(1, 1), 0);
        Check.load(x, "house 2;guard 1 1 1;guard 1 1 1;");
        Check.due("room(1, 0) after another text", x.room(1, 0), 99);
        Check.due("guard(1, 1) after another text", x.guard(1, 1), 0);
    }

    private static void lastLimitCounts() {
        Check.sentence("of several limits of a room the last one counts");
        GuardWalks x = Check.loaded("house 3;limit 1 5;limit 2 9;limit 1 99;limit 1 0;");
        Check.due("room(1, 0)", x.room(1, 0), 0);
        Check.due("room(2, 0)", x.room(2, 0), 9);
    }

    private static void firstTokenWithAnError() {
        Check.sentence("the first token with an error determines the result");
        Check.dueLoadError("house 3;door 1 1;;", 4, 15);
        Check.dueLoadError("house 13?", 2, 6);
        Check.dueLoadError("house 3;limit 3 100;", 2, 14);
        Check.dueLoadError("house 3;guard 0 1 7;", 4, 16);
        Check.dueLoadError("house 3;guard 0 7 1;", 2, 16);
        Check.dueLoadError("house 3;? door 1 1;", 1, 8);
        Check.dueLoadError("house 3;door 0 1 ?;door 1 1;", 1, 17);
    }

    private static void notAllowedHere() {
        Check.sentence("1: the token is not allowed here");
        Check.dueLoadError("3;", 1, 0);
        Check.dueLoadError("door 0 1;", 1, 0);
        Check.dueLoadError("house house 3;", 1, 6);
        Check.dueLoadError("house;", 1, 5);
        Check.dueLoadError("house 3,", 1, 7);
        Check.dueLoadError("house 3;3;", 1, 8);
        Check.dueLoadError("house 3;house 3;", 1, 8);
        Check.dueLoadError("house 3;closed;", 1, 8);
        Check.dueLoadError("house 3;walk 0 1;", 1, 8);
        Check.dueLoadError("house 3;door;", 1, 12);
        Check.dueLoadError("house 3;door 0;", 1, 14);
        Check.dueLoadError("house 3;door 0 closed;", 1, 15);
        Check.dueLoadError("house 3;door 0 1 2;", 1, 17);
        Check.dueLoadError("house 3;door 0 1 door 0 1;", 1, 17);
        Check.dueLoadError("house 3;limit;", 1, 13);
        Check.dueLoadError("house 3;limit 0;", 1, 15);
        Check.dueLoadError("house 3;limit 0 0 0;", 1, 18);
        Check.dueLoadError("house 3;guard 0 closed;", 1, 16);
        Check.dueLoadError("house 3;guard 0 phase;", 1, 21);
        Check.dueLoadError("house 3;guard 0 phase 0 0;", 1, 24);
        Check.dueLoadError("house 3;guard 0 phase phase 0;", 1, 22);
    }

    private static void emptyText() {
        Check.sentence("the text ends too early (empty)");
        Check.dueLoadError("", 1, 0);
        Check.dueLoadError(" ", 1, 1);
        Check.dueLoadError("\n\n \n", 1, 4);
        GuardWalks x = Check.loaded("house 2;guard 1;");
        Check.due("change(0)", x.change(0), -11);
        Check.due("position of change(0)", x.errorPosition(), 0);
        Check.due("query(0)", x.query(0), GuardWalks.HIDDEN - 1);
        Check.due("position of query(0)", x.errorPosition(), 0);
    }

    private static void textThatEndsTooEarly() {
        Check.sentence("or the text ends too early (the position is then the length of the text)");
        String[] parts = {"house", "3", ";", "door", "0", "1", "closed", ";", "limit", "2", "7", ";", "guard", "2", "phase", "0", ";"};
        StringBuilder text = new StringBuilder();
        int semicolons = 0;
        for (String part : parts) {
            text.append(part).append(' ');
            if (part.equals(";")) {
                semicolons++;
                Check.due("load of " + text, Check.load(new GuardWalks(), text.toString()), 3);
            } else {
                String whole = text.toString();
                Check.dueLoadError(whole, 1, whole.length());
                Check.dueLoadError(whole.trim(), 1, whole.length() - 1);
                Check.dueLoadError(whole + "\n \n", 1, whole.length() + 3);
            }
        }
        Check.due("clauses that end", semicolons, 4);
    }

    private static void numbersOutOfRange() {
        Check.sentence("2: where a number can stand, a number that is out of range");
        String[] large = {"4", "04", "12", "100", "2147483647", "2147483648", "4294967296", "4294967297", "18446744073709551616",
            "99999999999999999999999999999999999999"};
        for (String number : large) {
            Check.dueLoadError(JOINED + "door " + number + " 0;", 2, 31);
            Check.dueLoadError(JOINED + "door 0 " + number + ";", 2, 33);
            Check.dueLoadError(JOINED + "limit " + number + " 0;", 2, 32);
            Check.dueLoadError(JOINED + "guard " + number + ";", 2, 32);
            Check.dueLoadError(JOINED + "guard 0 " + number + ";", 2, 34);
            Check.dueLoadError(JOINED + "guard 0 1 0 0 phase " + number + ";", 2, 46);
        }
        Check.dueLoadError("house 2147483648;", 2, 6);
        Check.dueLoadError("house 120;", 2, 6);
        Check.dueLoadError("house 99990;", 2, 6);
        Check.dueLoadError("house 99991;", 2, 6);
        Check.dueLoadError("house 999999999912;", 2, 6);
        Check.dueLoadError(JOINED + "limit 0 990;", 2, 34);
        Check.dueLoadError("house 4294967299;", 2, 6);
        Check.dueLoadError(JOINED + "limit 0 4294967296;", 2, 34);
        Check.dueLoadError(JOINED + "limit 0 100;", 2, 34);
    }

    private static void keywordsTooMany() {
        Check.sentence("3: the keyword of the 21st door or the 5th guard");
        String doors = "house 3;" + "door 0 1 closed;".repeat(20);
        Check.due("20 doors", Check.load(new GuardWalks(), doors), 3);
        Check.dueLoadError(doors + "door 0 1;", 3, doors.length());
        Check.dueLoadError(doors + "limit 0 0;door", 3, doors.length() + 10);
        Check.due("a guard behind 20 doors", Check.load(new GuardWalks(), doors + "guard 0;limit 0 0;"), 3);
        String guards = "house 3;guard 0;guard 1;guard 2;guard 0;";
        Check.due("4 guards", Check.load(new GuardWalks(), guards), 3);
        Check.dueLoadError(guards + "guard 0;", 3, guards.length());
        Check.dueLoadError(guards + "door 0 1; guard", 3, guards.length() + 10);
        Check.due("a door behind 4 guards", Check.load(new GuardWalks(), guards + "door 0 1;limit 0 0;"), 3);
        // a text with an error doesn't leave its doors and guards behind
        GuardWalks x = new GuardWalks();
        Check.due("21 doors", Check.load(x, doors + "door 0 1;"), -13);
        Check.due("20 doors after 21", Check.load(x, doors), 3);
        Check.due("5 guards", Check.load(x, guards + "guard 0;"), -13);
        Check.due("4 guards after 5", Check.load(x, guards), 3);
    }

    private static void eleventhRoom() {
        Check.sentence("3: the 11th ROOM of a walk");
        String ten = JOINED + "guard 0 1 2 1 0 1 2 1 0 1";
        Check.due("ten rooms", Check.load(new GuardWalks(), ten + ";"), 4);
        Check.due("ten rooms and a phase", Check.load(new GuardWalks(), ten + " phase 9;"), 4);
        Check.dueLoadError(ten + " 0;", 3, ten.length() + 1);
        Check.dueLoadError(ten + " 1", 3, ten.length() + 1);
        // ten ROOMs of one guard are not counted on for the next one
        Check.due("ten rooms each", Check.load(new GuardWalks(), ten + ";guard 0 1 2 1 0 1 2 1 0 1;guard 3 3;"), 4);
    }

    private static void secondRoomOfADoor() {
        Check.sentence("4: the second ROOM of a door if it is the first one");
        Check.dueLoadError(JOINED + "door 3 3;", 4, 33);
        Check.dueLoadError(JOINED + "door 0 00;", 4, 33);
        Check.dueLoadError("house 1;door 0 0;", 4, 15);
    }

    private static void roomNotJoined() {
        Check.sentence("4: a ROOM of a walk that is neither the one before nor joined to it");
        Check.dueLoadError(JOINED + "guard 0 2;", 4, 34);
        Check.dueLoadError(JOINED + "guard 0 1 0 2 1;", 4, 38);
        Check.dueLoadError(JOINED + "guard 3 0;", 4, 34);
        Check.due("the one before", Check.load(new GuardWalks(), JOINED + "guard 3 3 3;"), 4);
    }

    private static void doorsToldAhead() {
        Check.sentence("joined to it (by the doors told ahead of it)");
        Check.dueLoadError("house 3;guard 0 1;door 0 1;", 4, 16);
        Check.dueLoadError("house 3;door 0 1 closed;guard 0 1;", 4, 32);
        Check.due("an open door beside a closed one", Check.load(new GuardWalks(), "house 3;door 0 1 closed;door 1 0;guard 0 1;"), 3);
        // the doors of the house before are not told
        GuardWalks x = Check.loaded("house 3;door 0 1;");
        Check.due("load", Check.load(x, "house 3;guard 0 1;"), -14);
        // in a change they are those of the house, as they are
        Check.due("load", Check.load(x, "house 3;door 0 1;guard 2;"), 3);
        Check.due("change", Check.change(x, "walk 0 0 1"), 2);
        Check.due("change back", Check.change(x, "walk 0 2"), 1);
        x.closeDoor(0);
        Check.due("change through a closed door", Check.change(x, "walk 0 0 1"), -14);
    }

    private static void tokenBehindTheLastRoom() {
        Check.sentence("4: the token behind the last ROOM of a walk (in a change also the end of the text)");
        Check.dueLoadError(JOINED + "guard 0 1 2;", 4, 37);
        Check.dueLoadError(JOINED + "guard 0 1 2\n;", 4, 38);
        Check.dueLoadError(JOINED + "guard 0 1 2 phase 7;", 4, 38);
        Check.dueLoadError(JOINED + "guard 0 0 0 0 0 0 0 0 1 2;", 4, 51);
        Check.dueChangeError(JOINED + "guard 3;", "walk 0 0 0 0 0 0 0 0 0 1 2", 4, 26);
        Check.dueChangeError(JOINED + "guard 3;", "walk 0 0 1 2", 4, 12);
        Check.dueChangeError(JOINED + "guard 3;", "walk 0 0 1 2  ", 4, 14);
        Check.dueChangeError(JOINED + "guard 3;", "walk 0 0 1 2 phase 0", 4, 13);
        Check.dueLoadError(JOINED + "guard 0 1 2", 1, 37);
    }

    private static void smallestCodeCounts() {
        Check.sentence("If several codes apply to one token, the smallest one counts");
        String doors = "house 3;" + "door 0 1 closed;".repeat(20);
        String guards = "house 3;guard 0;guard 0;guard 0;guard 0;";
        String ten = JOINED + "guard 0 1 2 1 0 1 2 1 0 1";
        // 1 and 3: a keyword too many that is not allowed there either
        Check.dueLoadError(doors + "limit door 0 1;", 1, doors.length() + 6);
        Check.dueLoadError(guards + "limit 0 guard 0;", 1, guards.length() + 8);
        // 1 and 4: behind the last ROOM
        Check.dueLoadError(JOINED + "guard 0 1 2,", 1, 37);
        Check.dueLoadError(JOINED + "guard 0 1 2 closed;", 1, 38);
        Check.dueLoadError(JOINED + "guard 0 1 2 guard;", 1, 38);
        Check.dueChangeError(JOINED + "guard 3;", "walk 0 0 1 2;", 1, 12);
        // 2 and 3, 3 and 4, 2 and 4: the 11th ROOM, and one that is no room at all
        Check.dueLoadError(ten + " 4;", 2, ten.length() + 1);
        Check.dueLoadError(ten + " 3;", 3, ten.length() + 1);
        Check.dueLoadError(JOINED + "guard 0 4;", 2, 34);
        Check.dueLoadError(JOINED + "guard 0 1 2 4;", 2, 38);
    }

    private static void errorPosition() {
        Check.sentence("the position of the first byte of the token with the error");
        GuardWalks x = new GuardWalks();
        Check.due("without a call", x.errorPosition(), -1);
        Check.load(x, "\n house 0013;");
        Check.due("of a number", x.errorPosition(), 8);
        Check.load(x, "house 3; doors 0 1;");
        Check.due("of a word", x.errorPosition(), 9);
        Check.dueIllegal("load(1)", () -> x.load(1));
        Check.due("of the last call that read the buffer", x.errorPosition(), 9);
        Check.query(x, "many room = 1 1");
        Check.due("of a query", x.errorPosition(), 14);
        Check.load(x, "house 3;guard 2;");
        Check.due("of a text without error", x.errorPosition(), -1);
        Check.change(x, "walk 0 3");
        Check.due("of a change", x.errorPosition(), 7);
        Check.query(x, "many room = 1");
        Check.due("of a query without error", x.errorPosition(), -1);
        Check.change(x, "walk 1 0");
        Check.due("of a change", x.errorPosition(), 5);
        Check.change(x, "walk 0 0");
        Check.due("of a change without error", x.errorPosition(), -1);
    }
}
