import java.lang.reflect.InvocationTargetException;
import java.lang.reflect.Method;
import java.util.ArrayList;
import java.util.HashMap;
import java.util.List;
import java.util.Map;

/** Runs of calls by chance, each answer held against the model's. An argument: how many runs, and from which seed. */
public final class ModelTest {
    private static final Map<String, Method> FACE = new HashMap<>();
    private static final String[] ASKED = {"told", "poem", "man", "debt", "knows", "learns", "would", "ahead", "lessons",
        "pays", "hardest", "fits", "look", "kept", "fair", "candles", "fullest", "free", "partners", "fades", "next",
        "gains", "closest", "best", "chorus", "season", "span", "status", "count", "fault"};
    private static int wrong = 0;
    private static long calls = 0;

    private final Whim whim;
    private final PaidByHeart x = new PaidByHeart();
    private final Model model = new Model();
    private final List<String> log = new ArrayList<>();
    private boolean failed = false;

    private ModelTest(long seed) {
        whim = new Whim(seed);
    }

    public static void main(String[] args) {
        int runs = args.length > 0 ? Integer.parseInt(args[0]) : 1800;
        long from = args.length > 1 ? Long.parseLong(args[1]) : 1;
        for (Method m : PaidByHeart.class.getDeclaredMethods()) FACE.put(m.getName(), m);
        for (long seed = from; seed < from + runs && wrong < 5; seed++) {
            new ModelTest(seed).run();
        }
        System.out.println(calls + " calls, " + wrong + " runs not as due");
        if (wrong != 0) System.exit(1);
    }

    private void run() {
        text("valley", whim.valley());
        for (int i = 0; i < 200 && !failed && log.size() < 512; i++) {
            int way = whim.below(40);
            if (way == 0 && whim.below(8) == 0) text("valley", whim.valley());
            else if (way < 2) text("law", whim.law());
            else if (way < 8) text("work", whim.work());
            else if (way < 10) text("book", truthfulBook());
            else if (way == 10) both("undo");
            else if (way == 11) both("image");
            else if (way == 12 && whim.below(2) == 0) both("restore");
            else if (way == 13) both("feed", random(5));
            else ask(ASKED[whim.below(ASKED.length)]);
        }
    }

    /** A book by chance is hardly ever right, so mostly what the model knows is told in it. */
    private String truthfulBook() {
        if (whim.below(3) == 0 || model.call("told", 0) == 0 || model.call("told", 1) == 0) return whim.book();
        StringBuilder text = new StringBuilder();
        for (int i = whim.within(1, 5); i > 0; i--) {
            int man = whim.below((int) model.call("told", 1));
            int poem = whim.below((int) model.call("told", 0));
            long lines = model.call("knows", man, poem);
            if (whim.below(4) == 0) lines += model.call("gains", man, poem);
            text.append(man).append(' ').append(poem).append(' ').append(lines).append(';');
        }
        return text.toString();
    }

    private void text(String name, String text) {
        if (whim.below(3) > 0) {
            // a tape that is not empty would spoil most texts
            both("book", 0);
        }
        int[] n = Pen.numbers(text);
        for (int i = 0; i < n.length; i += 5) both("feed", n[i], n[i + 1], n[i + 2], n[i + 3], n[i + 4]);
        if (whim.below(60) == 0) both(name, text.length() + whim.within(-3, 30));
        both(name, text.length());
        both("fault");
        both("told", 10);
        both("told", 8);
        both("told", 4);
    }

    private int[] random(int n) {
        int[] a = new int[n];
        for (int i = 0; i < n; i++) a[i] = whim.near(Integer.MIN_VALUE / 4, Integer.MAX_VALUE / 4);
        return a;
    }

    private void ask(String name) {
        int man = whim.near(0, whim.men - 1);
        int poem = whim.near(0, whim.poems - 1);
        int debt = whim.near(0, whim.debts - 1);
        int bits = whim.near(0, (1 << whim.men) - 1);
        int q = whim.near(0, 16);
        int weeks = whim.near(1, 48);
        int seed = whim.near(-1000000000, 1000000000);
        switch (name) {
            case "told" -> both(name, whim.near(0, 11));
            case "poem" -> both(name, poem, whim.near(0, 3));
            case "man" -> both(name, man, whim.near(0, 8));
            case "debt" -> both(name, debt, whim.near(0, 6));
            case "knows", "learns", "lessons", "fades", "gains" -> both(name, man, poem);
            case "would" -> both(name, whim.near(1, 40), whim.near(0, 9), whim.near(0, 40), whim.near(0, 99),
                whim.near(10, 150), whim.near(0, 999), whim.near(0, 400), whim.near(0, 5));
            case "ahead" -> both(name, whim.near(0, 99), whim.near(0, 2));
            case "pays", "hardest" -> both(name, man);
            case "fits", "look", "fullest", "next", "status" -> both(name, whim.near(0, 1));
            case "count" -> both(name, whim.near(0, 2));
            case "kept" -> both(name, whim.near(0, 12), whim.near(0, 13), q, whim.near(0, 1));
            case "fair" -> both(name, whim.near(0, 99), whim.near(0, 99), whim.near(0, 2));
            case "candles" -> both(name, man, bits, whim.near(0, whim.below(4) == 0 ? 999 : 60));
            case "partners" -> both(name, debt);
            case "closest" -> both(name, man, whim.near(0, 1));
            case "best" -> both(name, poem, whim.near(0, 1));
            case "chorus" -> both(name, poem, bits);
            case "season" -> both(name, seed, q, weeks, whim.near(0, 3));
            case "span" -> both(name, seed, whim.near(1, 10), q, weeks, whim.near(0, 2), debt);
            default -> both(name);
        }
    }

    private void both(String name, int... args) {
        // behind its 512th call an object may answer what it likes
        if (failed || log.size() >= 512) return;
        calls++;
        long want = Pen.of(() -> model.call(name, args));
        long got = Pen.of(() -> real(name, args));
        StringBuilder row = new StringBuilder(name).append('(');
        for (int i = 0; i < args.length; i++) row.append(i == 0 ? "" : ", ").append(args[i]);
        log.add(row.append(") -> ").append(Pen.name(got)).toString());
        if (got != want) {
            failed = true;
            wrong++;
            for (String line : log) System.out.println("  " + line);
            System.out.println("due is " + Pen.name(want));
        }
    }

    private long real(String name, int[] args) {
        Object[] boxed = new Object[args.length];
        for (int i = 0; i < args.length; i++) boxed[i] = args[i];
        try {
            return ((Number) FACE.get(name).invoke(x, boxed)).longValue();
        } catch (InvocationTargetException e) {
            if (e.getCause() instanceof RuntimeException r) throw r;
            throw new IllegalStateException(e.getCause());
        } catch (IllegalAccessException e) {
            throw new IllegalStateException(e);
        }
    }
}
