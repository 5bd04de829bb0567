import java.nio.charset.StandardCharsets;

/** What the tests share: a count of wrong answers, and texts fed into an object. */
final class Check {
    private static int wrong = 0;
    private static int made = 0;
    private static String sentence = "";

    private Check() {
    }

    /** The sentence of the document that the answers from now on are checked for. */
    static void sentence(String words) {
        sentence = "(" + words + ") ";
    }

    private static void count(String call, boolean right, Object got, Object want) {
        made++;
        if (!right) {
            wrong++;
            System.out.println(sentence + call + " answered " + got + ", due is " + want);
        }
    }

    static void due(String call, long got, long want) {
        count(call, got == want, got, want);
    }

    static void due(String call, boolean got, boolean want) {
        due(call, got ? 1 : 0, want ? 1 : 0);
    }

    static void due(String call, String got, String want) {
        count(call, got.equals(want), got, want);
    }

    static void dueExactly(String call, double got, double want) {
        count(call, Double.compare(got, want) == 0, got, want);
    }

    /** The name of the exception that a call throws, or "nothing". */
    static String thrown(Runnable call) {
        try {
            call.run();
            return "nothing";
        } catch (RuntimeException e) {
            return e.getClass().getSimpleName();
        }
    }

    static void dueNoSuch(String call, Runnable run) {
        due(call, thrown(run), "NoSuchElementException");
    }

    static void dueIllegal(String call, Runnable run) {
        due(call, thrown(run), "IllegalArgumentException");
    }

    /** Feeds a text, filled up with spaces to whole feeds. Answers its length. */
    static int feed(GuardWalks x, String text) {
        feed(x, text.getBytes(StandardCharsets.ISO_8859_1));
        return text.length();
    }

    static void feed(GuardWalks x, byte[] bytes) {
        for (int from = 0; from < bytes.length; from += 20) {
            x.feed(word(bytes, from), word(bytes, from + 4), word(bytes, from + 8),
                word(bytes, from + 12), word(bytes, from + 16));
        }
    }

    private static int word(byte[] bytes, int from) {
        int word = 0;
        for (int i = from; i < from + 4; i++) {
            word = word << 8 | (i < bytes.length ? bytes[i] & 255 : ' ');
        }
        return word;
    }

    static int load(GuardWalks x, String text) {
        return x.load(feed(x, text));
    }

    static int change(GuardWalks x, String text) {
        return x.change(feed(x, text));
    }

    static int query(GuardWalks x, String text) {
        return x.query(feed(x, text));
    }

    static GuardWalks loaded(String text) {
        GuardWalks x = new GuardWalks();
        int rooms = load(x, text);
        count("load of " + text, rooms > 0, rooms + " at " + x.errorPosition(), "no error");
        return x;
    }

    /** A text that load refuses: with which code, and where. */
    static void dueLoadError(String text, int code, int position) {
        GuardWalks x = new GuardWalks();
        due("load of " + text, load(x, text), -10 - code);
        due("position of the error of " + text, x.errorPosition(), position);
        due("rooms after " + text, x.size(0), 1);
        due("buffer after " + text, x.feed(0, 0, 0, 0, 0), 20);
    }

    /** A change that this house refuses: with which code, and where. */
    static void dueChangeError(String house, String text, int code, int position) {
        GuardWalks x = loaded(house);
        x.pass(1);
        String before = state(x);
        due("change of " + text, change(x, text), -10 - code);
        due("position of the error of " + text, x.errorPosition(), position);
        due("state after " + text, state(x), before);
        due("buffer after " + text, x.feed(0, 0, 0, 0, 0), 20);
    }

    /** A query that a house of three rooms refuses: with which code, and where. */
    static void dueQueryError(String text, int code, int position) {
        GuardWalks x = loaded("house 3;");
        due("query of " + text, query(x, text), GuardWalks.HIDDEN - code);
        due("position of the error of " + text, x.errorPosition(), position);
        due("buffer after " + text, x.feed(0, 0, 0, 0, 0), 20);
    }

    /** Everything that format tells, as a text. */
    static String formatted(GuardWalks x) {
        int length = x.format();
        return kept(x, length);
    }

    static String kept(GuardWalks x, int length) {
        StringBuilder text = new StringBuilder();
        for (int i = 0; i < length; i++) {
            text.append((char) x.formattedByte(i));
        }
        return text.toString();
    }

    /** A text of all that an operation can change, to see that a refused call changes nothing. */
    static String state(GuardWalks x) {
        StringBuilder text = new StringBuilder();
        for (int what = 0; what < 10; what++) {
            text.append(x.size(what)).append(' ');
        }
        for (int door = 0; door < x.size(1); door++) {
            text.append("door ").append(x.door(door, 0)).append(' ').append(x.door(door, 1)).append(' ').append(x.door(door, 2));
        }
        for (int room = 0; room < x.size(0); room++) {
            text.append("room ");
            for (int what = 0; what < 8; what++) {
                text.append(x.room(room, what)).append(' ');
            }
        }
        for (int guard = 0; guard < x.size(2); guard++) {
            text.append("guard ");
            for (int what = 0; what < 4; what++) {
                text.append(x.guard(guard, what)).append(' ');
            }
            for (int step = 0; step < 10; step++) {
                text.append(x.walk(guard, step)).append(' ');
            }
        }
        return text.append("undo ").append(x.undoCount()).toString();
    }

    /** What state tells but for the operations that can be undone. */
    static String facts(GuardWalks x) {
        String state = state(x);
        return state.substring(0, state.indexOf("undo"));
    }

    /** Ends a test: with exit code 1 if an answer was wrong. */
    static void end() {
        System.out.println(made + " answers, " + wrong + " of them not as due");
        if (wrong != 0 || made == 0) {
            System.exit(1);
        }
    }
}
