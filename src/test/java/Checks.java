import java.util.function.LongSupplier;

/** What the tests of the project share: counting wrong answers, and setting a desk up by a text. */
final class Checks {
    private static final int BYTES_OF_APPEND = 20;

    private final String name;
    private int made;
    private int wrong;

    Checks(String name) {
        this.name = name;
    }

    void due(String what, long got, long want) {
        made++;
        if (got != want) {
            wrong++;
            System.out.println(name + ": " + what + " answered " + got + ", due is " + want);
        }
    }

    void due(String what, boolean got, boolean want) {
        due(what, got ? 1 : 0, want ? 1 : 0);
    }

    void due(String what, String got, String want) {
        made++;
        if (!got.equals(want)) {
            wrong++;
            System.out.println(name + ": " + what + " is '" + got + "', due is '" + want + "'");
        }
    }

    int made() {
        return made;
    }

    /** The call must throw exactly this class. */
    void dueThrow(String what, Class<? extends RuntimeException> want, LongSupplier call) {
        made++;
        String got;
        try {
            got = Long.toString(call.getAsLong());
        } catch (RuntimeException thrown) {
            if (thrown.getClass() == want) {
                return;
            }
            got = thrown.getClass().getName();
        }
        wrong++;
        System.out.println(name + ": " + what + " answered " + got + ", due is " + want.getName());
    }

    void noSuch(String what, LongSupplier call) {
        dueThrow(what, IndexOutOfBoundsException.class, call);
    }

    void badArgument(String what, LongSupplier call) {
        dueThrow(what, IllegalArgumentException.class, call);
    }

    void badState(String what, LongSupplier call) {
        dueThrow(what, IllegalStateException.class, call);
    }

    /** Ends the program: with exit code 1 if an answer was wrong. */
    void end() {
        System.out.println(name + ": " + made + " checks, " + wrong + " wrong");
        System.exit(wrong == 0 ? 0 : 1);
    }

    /** Appends the text, filled up with spaces to a multiple of 20 bytes. */
    static void put(DocumentaryCreditDesk desk, String text) {
        for (int i = 0; i < text.length(); i += BYTES_OF_APPEND) {
            desk.append(word(text, i), word(text, i + 4), word(text, i + 8), word(text, i + 12),
                    word(text, i + 16));
        }
    }

    static int word(String text, int from) {
        int word = 0;
        for (int i = from; i < from + 4; i++) {
            word = word << 8 | (i < text.length() ? text.charAt(i) & 255 : ' ');
        }
        return word;
    }

    static int load(DocumentaryCreditDesk desk, String text) {
        put(desk, text);
        return desk.load(text.length());
    }

    static DocumentaryCreditDesk deskWith(String text) {
        DocumentaryCreditDesk desk = new DocumentaryCreditDesk();
        int answer = load(desk, text);
        if (answer < 0) {
            throw new AssertionError(text + " answered " + answer + " at " + desk.errorOffset());
        }
        return desk;
    }
}
