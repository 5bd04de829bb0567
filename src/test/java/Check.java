import java.nio.charset.StandardCharsets;

/** What the tests share: a count of wrong answers, and texts fed into an object. */
final class Check {
    private static int wrong = 0;
    private static int made = 0;

    private Check() {
    }

    static void due(String call, long got, long want) {
        made++;
        if (got != want) {
            wrong++;
            System.out.println(call + " answered " + got + ", due is " + want);
        }
    }

    static void due(String call, boolean got, boolean want) {
        due(call, got ? 1 : 0, want ? 1 : 0);
    }

    static void due(String call, String got, String want) {
        made++;
        if (!got.equals(want)) {
            wrong++;
            System.out.println(call + " answered " + got + ", due is " + want);
        }
    }

    static void dueExactly(String call, double got, double want) {
        made++;
        if (Double.compare(got, want) != 0) {
            wrong++;
            System.out.println(call + " answered " + got + ", due is " + want);
        }
    }

    /** The name of the exception that a call throws, or "nothing". */
    static String thrown(Runnable call) {
        try {
            call.run();
            return "nothing";
        } catch (RuntimeException e) {
            return e.getClass().getSimpleName();
        }
    }

    static void dueNoSuch(String call, Runnable run) {
        due(call, thrown(run), "NoSuchElementException");
    }

    static void dueIllegal(String call, Runnable run) {
        due(call, thrown(run), "IllegalArgumentException");
    }

    /** Feeds a text, filled up with spaces to whole feeds. Answers its length. */
    static int feed(GuardWalks x, String text) {
        feed(x, text.getBytes(StandardCharsets.ISO_8859_1));
        return text.length();
    }

    static void feed(GuardWalks x, byte[] bytes) {
        for (int from = 0; from < bytes.length; from += 20) {
            x.feed(word(bytes, from), word(bytes, from + 4), word(bytes, from + 8),
                word(bytes, from + 12), word(bytes, from + 16));
        }
    }

    private static int word(byte[] bytes, int from) {
        int word = 0;
        for (int i = from; i < from + 4; i++) {
            word = word << 8 | (i < bytes.length ? bytes[i] & 255 : ' ');
        }
        return word;
    }

    static int load(GuardWalks x, String text) {
        return x.load(feed(x, text));
    }

    static int change(GuardWalks x, String text) {
        return x.change(feed(x, text));
    }

    static int query(GuardWalks x, String text) {
        return x.query(feed(x, text));
    }

    static GuardWalks loaded(String text) {
        GuardWalks x = new GuardWalks();
        int rooms = load(x, text);
        if (rooms < 1) {
            wrong++;
            System.out.println("the text of a test has error " + rooms + " at " + x.errorPosition() + ": " + text);
        }
        return x;
    }

    /** Everything that format tells, as a text. */
    static String formatted(GuardWalks x) {
        int length = x.format();
        return kept(x, length);
    }

    static String kept(GuardWalks x, int length) {
        StringBuilder text = new StringBuilder();
        for (int i = 0; i < length; i++) {
            text.append((char) x.formattedByte(i));
        }
        return text.toString();
    }

    /** A text of all that an operation can change, to see that a refused call changes nothing. */
    static String state(GuardWalks x) {
        StringBuilder text = new StringBuilder();
        for (int what = 0; what < 10; what++) {
            text.append(x.size(what)).append(' ');
        }
        for (int door = 0; door < x.size(1); door++) {
            text.append("door ").append(x.door(door, 0)).append(' ').append(x.door(door, 1)).append(' ').append(x.door(door, 2));
        }
        for (int room = 0; room < x.size(0); room++) {
            text.append("room ");
            for (int what = 0; what < 8; what++) {
                text.append(x.room(room, what)).append(' ');
            }
        }
        for (int guard = 0; guard < x.size(2); guard++) {
            text.append("guard ");
            for (int what = 0; what < 4; what++) {
                text.append(x.guard(guard, what)).append(' ');
            }
            for (int step = 0; step < 10; step++) {
                text.append(x.walk(guard, step)).append(' ');
            }
        }
        return text.append("undo ").append(x.undoCount()).toString();
    }

    /** Ends a test: with exit code 1 if an answer was wrong. */
    static void end() {
        System.out.println(made + " answers, " + wrong + " of them not as due");
        if (wrong != 0 || made == 0) {
            System.exit(1);
        }
    }
}
