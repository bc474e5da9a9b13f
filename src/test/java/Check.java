import java.io.IOException;
import java.nio.charset.StandardCharsets;
import java.nio.file.Files;
import java.nio.file.Path;

/** Counts the checks of one test and helps to put texts on the tape. */
final class Check {
    private static int passed = 0;
    private static int failed = 0;
    private static String sentence = "";
    private static final String DOCUMENT = document();

    private Check() {
    }

    private static String document() {
        try {
            return Files.readString(Path.of("../shared/DOC.md")).replaceAll("\\s+", " ");
        } catch (IOException e) {
            return "";
        }
    }

    /** Names the sentence of the document that the checks behind it are about. */
    static void sentence(String words) {
        sentence = "\"" + words + "\": ";
        count(DOCUMENT.isEmpty() || DOCUMENT.contains(words.replaceAll("\\s+", " ")), "the document does not say so");
    }

    static void equal(String what, long got, long due) {
        count(got == due, what + " answered " + got + ", due is " + due);
    }

    static void equal(String what, double got, double due) {
        count(got == due, what + " answered " + got + ", due is " + due);
    }

    static void holds(String what, boolean got) {
        count(got, what + " does not hold");
    }

    static void fails(String what, boolean got) {
        count(!got, what + " holds");
    }

    static void outOfBounds(String what, Runnable call) {
        throwing(what, IndexOutOfBoundsException.class, call);
    }

    static void illegalState(String what, Runnable call) {
        throwing(what, IllegalStateException.class, call);
    }

    static void illegalArgument(String what, Runnable call) {
        throwing(what, IllegalArgumentException.class, call);
    }

    private static void throwing(String what, Class<?> due, Runnable call) {
        String got = "nothing";
        try {
            call.run();
        } catch (RuntimeException e) {
            got = e.getClass().getName();
        }
        count(got.equals(due.getName()), what + " threw " + got + ", due is " + due.getName());
    }

    private static void count(boolean good, String message) {
        if (good) {
            passed++;
        } else {
            failed++;
            System.out.println(sentence + message);
        }
    }

    static void close(String test) {
        System.out.println(test + ": " + passed + " passed, " + failed + " failed");
        if (failed > 0) {
            System.exit(1);
        }
    }

    /** Puts a text on the tape, which has to be empty. */
    static void feed(RingDomino x, String text) {
        byte[] bytes = text.getBytes(StandardCharsets.ISO_8859_1);
        for (int at = 0; at < bytes.length; at += 20) {
            x.feed(word(bytes, at), word(bytes, at + 4), word(bytes, at + 8), word(bytes, at + 12),
                    word(bytes, at + 16));
        }
        x.trim(bytes.length);
    }

    private static int word(byte[] bytes, int at) {
        int word = 0;
        for (int i = at; i < at + 4; i++) {
            word = word << 8 | (i < bytes.length ? bytes[i] & 255 : 0);
        }
        return word;
    }

    static int teach(RingDomino x, String text) {
        feed(x, text);
        return x.teach();
    }

    static RingDomino taught(String text) {
        RingDomino x = new RingDomino();
        equal("teach of " + text, teach(x, text), 0);
        return x;
    }

    /** Checks the error and its position that a new object tells of a text. */
    static void error(String text, int error, int position) {
        RingDomino x = new RingDomino();
        equal("teach of " + text, teach(x, text), error);
        equal("errorAt of " + text, x.errorAt(), position);
    }

    static void good(String text) {
        error(text, 0, -1);
    }

    /** Checks how long the tape is; trim to all of it changes nothing. */
    static void tapeHolds(RingDomino x, int bytes) {
        illegalArgument("trim beyond " + bytes + " bytes", () -> x.trim(bytes + 1));
        equal("trim to all " + bytes + " bytes", x.trim(bytes), bytes);
    }
}
