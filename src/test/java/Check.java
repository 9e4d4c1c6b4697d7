import java.nio.charset.StandardCharsets;
import java.util.NoSuchElementException;

/** What the tests share: comparing answers, and putting a text on the tape of an object. */
final class Check {
    /** What a call is said to have answered that threw a NoSuchElementException. */
    static final long THROWS = Long.MIN_VALUE;

    interface Call {
        long answer();
    }

    private static int compared = 0;
    private static int wrong = 0;

    private Check() {
    }

    static void due(String what, long got, long want) {
        compared++;
        if (got != want) {
            wrong++;
            System.out.println(what + " answered " + name(got) + ", due is " + name(want));
        }
    }

    static void due(String what, boolean got, boolean want) {
        due(what, got ? 1 : 0, want ? 1 : 0);
    }

    /** Rows of answers, due in that order. */
    static void row(String what, long[] got, long... want) {
        due(what + ": how many", got.length, want.length);
        for (int i = 0; i < Math.min(got.length, want.length); i++) {
            due(what + " [" + i + "]", got[i], want[i]);
        }
    }

    static void throwing(String what, Call call) {
        due(what, answerOf(call), THROWS);
    }

    static long answerOf(Call call) {
        try {
            return call.answer();
        } catch (NoSuchElementException e) {
            return THROWS;
        }
    }

    private static String name(long answer) {
        return answer == THROWS ? "throws.NoSuchElementException" : Long.toString(answer);
    }

    /** The tape of x has this text alone then. */
    static void put(FinalLinks x, String text) {
        x.end(0);
        byte[] bytes = text.getBytes(StandardCharsets.ISO_8859_1);
        for (int at = 0; at < bytes.length; at += 20) {
            int[] n = numbers(bytes, at);
            if (x.feed(n[0], n[1], n[2], n[3], n[4]) < 0) {
                throw new IllegalStateException("the tape is too short for a test's text");
            }
        }
        if (!x.end(bytes.length)) {
            throw new IllegalStateException("the tape can't be cut");
        }
    }

    /** Twenty bytes from a place on, as five numbers; 0 behind the end. */
    static int[] numbers(byte[] bytes, int at) {
        int[] row = new int[5];
        for (int i = 0; i < 20; i++) {
            int value = at + i < bytes.length ? bytes[at + i] & 255 : 0;
            row[i / 4] = row[i / 4] << 8 | value;
        }
        return row;
    }

    static int chain(FinalLinks x, String text) {
        put(x, text);
        return x.chain();
    }

    static int book(FinalLinks x, int lives, String text) {
        put(x, text);
        return x.book(lives);
    }

    static int sentence(FinalLinks x, String text) {
        put(x, text);
        return x.sentence();
    }

    static FinalLinks withChain(String text) {
        FinalLinks x = new FinalLinks();
        if (chain(x, text) < 0) {
            throw new IllegalStateException("a test's chain has a fault: " + text);
        }
        return x;
    }

    /** Ends the test: exit code 1, if an answer was not as due. */
    static void finish(String test) {
        System.out.println(test + ": " + compared + " answers compared, " + wrong + " wrong");
        if (wrong != 0 || compared == 0) {
            System.exit(1);
        }
    }
}
