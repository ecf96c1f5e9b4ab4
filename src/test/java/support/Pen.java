import java.nio.charset.StandardCharsets;
import java.util.NoSuchElementException;

/** Writes texts to an object's tape, and holds its answers against those that are due. */
final class Pen {
    static final long NO_SUCH = Long.MIN_VALUE;
    static final long ILLEGAL = Long.MIN_VALUE + 1;
    static final long OTHER = Long.MIN_VALUE + 2;

    private static int wrong = 0;
    private static int asked = 0;

    private Pen() {
    }

    interface Call {
        long answer();
    }

    /** What a call answers, or which exception it throws. */
    static long of(Call call) {
        try {
            return call.answer();
        } catch (RuntimeException e) {
            // exactly these two: a class below them would be the machine's own
            if (e.getClass() == NoSuchElementException.class) return NO_SUCH;
            if (e.getClass() == IllegalArgumentException.class) return ILLEGAL;
            e.printStackTrace();
            return OTHER;
        }
    }

    static void due(String what, long want, Call call) {
        long got = of(call);
        asked++;
        if (got != want) {
            wrong++;
            System.out.println(what + " answered " + name(got) + ", due is " + name(want));
        }
    }

    static void noSuch(String what, Call call) {
        due(what, NO_SUCH, call);
    }

    static void illegal(String what, Call call) {
        due(what, ILLEGAL, call);
    }

    static String name(long answer) {
        return answer == NO_SUCH ? "throws.NoSuchElementException"
            : answer == ILLEGAL ? "throws.IllegalArgumentException"
            : answer == OTHER ? "throws another thing" : Long.toString(answer);
    }

    /** The numbers, five for each feed, that bring a text to the tape. */
    static int[] numbers(String text) {
        byte[] bytes = text.getBytes(StandardCharsets.ISO_8859_1);
        int[] numbers = new int[(bytes.length + 19) / 20 * 5];
        for (int i = 0; i < bytes.length; i++) {
            numbers[i / 4] |= (bytes[i] & 255) << 24 - i % 4 * 8;
        }
        return numbers;
    }

    static void feed(PaidByHeart x, String text) {
        int[] n = numbers(text);
        for (int i = 0; i < n.length; i += 5) {
            x.feed(n[i], n[i + 1], n[i + 2], n[i + 3], n[i + 4]);
        }
    }

    static int valley(PaidByHeart x, String text) {
        feed(x, text);
        return x.valley(text.length());
    }

    static int law(PaidByHeart x, String text) {
        feed(x, text);
        return x.law(text.length());
    }

    static int work(PaidByHeart x, String text) {
        feed(x, text);
        return x.work(text.length());
    }

    static int book(PaidByHeart x, String text) {
        feed(x, text);
        return x.book(text.length());
    }

    static PaidByHeart of(String valley) {
        PaidByHeart x = new PaidByHeart();
        int answer = valley(x, valley);
        if (answer < 0) {
            wrong++;
            System.out.println("valley was refused by " + answer + " at " + x.fault() + ": " + valley);
        }
        return x;
    }

    static String times(int n, String text) {
        return text.repeat(n);
    }

    static void end() {
        System.out.println(asked + " answers, " + wrong + " not as due");
        if (wrong != 0) System.exit(1);
    }
}
