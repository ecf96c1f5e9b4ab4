import java.util.ArrayList;
import java.util.List;

/**
 * What is asked, refused or faulty leaves all as it was: beside an object on which such a call was made stands another
 * one on which it was not, and both answer alike.
 */
public final class StaysTest {
    private static final String VALLEY = "poem 10 0;poem 6 5;poem 20 9;man 30 20;man 12 59;man 9 60;"
        + "debt 0 0 0 3;debt 0 1 1 5;debt 1 1 2 9;debt 0 2 3 2;fade 2;";

    /** A call on an object, or several. */
    interface On {
        void go(PaidByHeart x);
    }

    public static void main(String[] args) {
        Pen.due("the objects differ in much from new ones", 0,
            () -> all(rich()).equals(all(Pen.of(VALLEY))) ? 1 : 0);
        asked();
        noSuch();
        illegal();
        fullOrEmpty();
        faults();
        Pen.end();
    }

    // "Asked, nothing stays changed"
    private static void asked() {
        for (int i = 0; i < 12; i++) {
            int what = i;
            stays("told " + i, x -> x.told(what));
            if (i < 4) stays("poem " + i, x -> x.poem(1, what));
            if (i < 9) stays("man " + i, x -> x.man(1, what));
            if (i < 7) stays("debt " + i, x -> x.debt(2, what));
            if (i < 3) stays("ahead " + i, x -> x.ahead(99, what));
            if (i < 4) stays("season " + i, x -> x.season(5, 16, 48, what));
            if (i < 3) stays("span " + i, x -> x.span(5, 10, 16, 48, what, 1));
            if (i < 2) {
                stays("fits " + i, x -> x.fits(what));
                stays("look " + i, x -> x.look(what));
                stays("fullest " + i, x -> x.fullest(what));
                stays("next " + i, x -> x.next(what));
                stays("closest " + i, x -> x.closest(0, what));
                stays("best " + i, x -> x.best(0, what));
                stays("kept " + i, x -> x.kept(12, 5, 7, what));
                stays("status " + i, x -> x.status(what));
                stays("count " + i, x -> x.count(what));
            }
        }
        for (int man = 0; man < 3; man++) {
            int a = man;
            stays("pays", x -> x.pays(a));
            stays("hardest", x -> x.hardest(a));
            for (int poem = 0; poem < 3; poem++) {
                int p = poem;
                stays("knows", x -> x.knows(a, p));
                stays("learns", x -> x.learns(a, p));
                stays("lessons", x -> x.lessons(a, p));
                stays("fades", x -> x.fades(a, p));
                stays("gains", x -> x.gains(a, p));
            }
        }
        stays("would", x -> x.would(40, 9, 40, 99, 150, 999, 400, 5));
        stays("fair", x -> x.fair(3, 5, 1));
        stays("candles", x -> x.candles(0, 7, 9));
        stays("free", x -> x.free());
        stays("partners", x -> x.partners(1));
        stays("chorus", x -> x.chorus(0, 7));
        stays("fault", x -> x.fault());
        stays("status of others", x -> x.status(2));
        stays("count of others", x -> x.count(3));
        stays("one behind the other", x -> {
            x.lessons(0, 1);
            x.season(9, 16, 48, 0);
            x.ahead(99, 0);
            x.pays(0);
            x.would(1, 0, 0, 0, 10, 0, 0, 0);
        });
    }

    // "NoSuchElementException: no such POEM, MAN, DEBT"
    private static void noSuch() {
        for (int n : new int[] {-1, 3, 4}) {
            List<On> calls = List.of(x -> x.poem(n, 0), x -> x.man(n, 0), x -> x.knows(n, 0), x -> x.knows(0, n),
                x -> x.learns(n, 0), x -> x.learns(0, n), x -> x.lessons(n, 0), x -> x.lessons(0, n), x -> x.pays(n));
            for (On call : calls) refused("no such, by " + n, 1, 0, call);
            calls = List.of(x -> x.hardest(n), x -> x.candles(n, 7, 9), x -> x.fades(n, 0), x -> x.fades(0, n),
                x -> x.gains(n, 0), x -> x.gains(0, n), x -> x.closest(n, 0), x -> x.best(n, 0), x -> x.chorus(n, 7));
            for (On call : calls) refused("no such, by " + n, 1, 0, call);
        }
        refused("debt", 1, 0, x -> x.debt(4, 0));
        refused("partners", 1, 0, x -> x.partners(4));
    }

    // "IllegalArgumentException"
    private static void illegal() {
        for (int n : new int[] {-1, 1000}) {
            List<On> calls = List.of(x -> x.valley(n), x -> x.law(n), x -> x.work(n), x -> x.book(n), x -> x.told(n),
                x -> x.poem(0, n), x -> x.man(0, n), x -> x.debt(0, n), x -> x.ahead(n, 0), x -> x.ahead(0, n));
            for (On call : calls) refused("illegal, by " + n, 0, 1, call);
            calls = List.of(x -> x.fits(n), x -> x.look(n), x -> x.kept(n, 0, 0, 0), x -> x.kept(0, n, 0, 0),
                x -> x.kept(0, 0, n, 0), x -> x.kept(0, 0, 0, n), x -> x.fair(n, 0, 0), x -> x.fair(0, n, 0),
                x -> x.fair(0, 0, n), x -> x.candles(0, n, 0));
            for (On call : calls) refused("illegal, by " + n, 0, 1, call);
            calls = List.of(x -> x.candles(0, 7, n), x -> x.fullest(n), x -> x.next(n), x -> x.closest(0, n),
                x -> x.best(0, n), x -> x.chorus(0, n), x -> x.season(1, n, 1, 0), x -> x.season(1, 0, n, 0),
                x -> x.season(1, 0, 1, n), x -> x.span(1, n, 0, 1, 0, 0));
            for (On call : calls) refused("illegal, by " + n, 0, 1, call);
            calls = List.of(x -> x.span(1, 1, n, 1, 0, 0), x -> x.span(1, 1, 0, n, 0, 0), x -> x.span(1, 1, 0, 1, n, 0),
                x -> x.span(1, 1, 0, 1, 0, n));
            for (On call : calls) refused("illegal, by " + n, 0, 1, call);
            refused("would, by " + n, 0, 8, x -> {
                int[] a = {1, 0, 0, 0, 10, 0, 0, 0};
                for (int i = 0; i < 8; i++) {
                    int[] b = a.clone();
                    b[i] = n;
                    Pen.illegal("would", () -> x.would(b[0], b[1], b[2], b[3], b[4], b[5], b[6], b[7]));
                }
            });
        }
        refused("a text longer than the tape", 0, 4, x -> {
            Pen.illegal("valley", () -> x.valley(21));
            Pen.illegal("law", () -> x.law(21));
            Pen.illegal("work", () -> x.work(21));
            Pen.illegal("book", () -> x.book(21));
        });
    }

    /** Nothing there yet, and no room left: answers that are no exceptions. */
    private static void fullOrEmpty() {
        same("undo of none", x -> Pen.due("undo", -1, () -> x.undo()), () -> {
            PaidByHeart x = Pen.of(VALLEY);
            Pen.law(x, "7");
            Pen.book(x, "0 0 1;");
            return x;
        });
        same("restore of none", x -> Pen.due("restore", -1, () -> x.restore()), () -> {
            PaidByHeart x = Pen.of(VALLEY);
            Pen.work(x, "learn 0 0;forget 1 1;week;");
            return x;
        });
        same("a fourth image", x -> Pen.due("image", -1, () -> x.image()), () -> {
            PaidByHeart x = rich();
            while (x.count(0) < 3) x.image();
            return x;
        });
        same("a tape that is full", x -> Pen.due("feed", -1, () -> x.feed(1, 2, 3, 4, 5)), () -> {
            PaidByHeart x = rich();
            while (x.count(1) < 600) x.feed(0x20202020, 0x20202020, 0x20202020, 0x20202020, 0x20202020);
            return x;
        });
        // -20 empties the tape and leaves no fault, and changes nothing else
        same("a 17th work", x -> {
            Pen.feed(x, "week;");
            Pen.due("work", -20, () -> x.work(5));
        }, () -> {
            PaidByHeart x = rich();
            while (x.count(2) < 16) Pen.work(x, "forget 0 0;");
            Pen.book(x, "0 0 5;");
            return x;
        });
    }

    // "or the FAULT less 10 (all but the TAPE stays)"; "(none is)"
    private static void faults() {
        String[] valleys = {"bad", "poem 1 0", "poem 1 0;man 9 9;", "fade 9;fade 10;", Pen.times(9, "poem 1 0;"),
            "poem 1 0;man 9 20;debt 0 0 0 0;debt 0 0 0 41;"};
        for (String text : valleys) faulty("valley", text);
        for (String text : new String[] {"", "5+", "1000", "9 9", "(((((((1)))))))", "lines*bad"}) faulty("law", text);
        String[] works = {"week;bad", "week", "learn 0 0;say 9;", "again 40[week;learn 0 1;];again 41[];",
            "forget 0 0;" + Pen.times(7, "again 1[")};
        for (String text : works) faulty("work", text);
        for (String text : new String[] {"0", "0 0 1;9 0 0;", "0 0 1;0 0 100;", Pen.times(7, "1 1 0;")}) faulty("book", text);
    }

    private static void faulty(String sort, String text) {
        same(sort + " " + text, x -> {
            Pen.book(x, "bad");
            Pen.due("a fault", 1, () -> Edges.read(x, sort, text) < 0 ? 1 : 0);
            Pen.due("a place", 1, () -> x.fault() >= 0 ? 1 : 0);
            // the fault alone is that of another text now
            Pen.book(x, "bad");
        }, () -> {
            PaidByHeart x = rich();
            Pen.book(x, "bad");
            return x;
        });
    }

    private static void stays(String name, On call) {
        refused(name, 0, 0, call);
    }

    /** Makes the call, which throws as often as told, and looks at all that can be seen. */
    private static void refused(String name, int noSuch, int illegal, On call) {
        PaidByHeart x = rich();
        PaidByHeart y = rich();
        int elements = x.status(0);
        int arguments = x.status(1);
        long answer = Pen.of(() -> {
            call.go(x);
            return 0;
        });
        if (noSuch == 1) Pen.due(name, Pen.NO_SUCH, () -> answer);
        else if (illegal == 1) Pen.due(name, Pen.ILLEGAL, () -> answer);
        else Pen.due(name, 0, () -> answer);
        Pen.due(name + ": status(0)", elements + noSuch, () -> x.status(0));
        Pen.due(name + ": status(1)", arguments + illegal, () -> x.status(1));
        alike(name, x, y);
    }

    interface Made {
        PaidByHeart object();
    }

    private static void same(String name, On call, Made made) {
        PaidByHeart x = made.object();
        PaidByHeart y = made.object();
        call.go(x);
        Pen.due(name + ": no refusal is counted", y.status(0) + y.status(1), () -> x.status(0) + x.status(1));
        alike(name, x, y);
    }

    private static void alike(String name, PaidByHeart x, PaidByHeart y) {
        String one = all(x);
        String other = all(y);
        Pen.due(name + ":\n" + one + "\n" + other, 1, () -> one.equals(other) ? 1 : 0);
    }

    /** An object of which nothing is as it was at first. */
    private static PaidByHeart rich() {
        PaidByHeart x = Pen.of(VALLEY);
        Pen.law(x, "9-hard+lessons%3");
        Pen.work(x, "learn 0 0;learn 0 0;learn 1 1;say 0;week;forget 2 2;");
        x.image();
        Pen.work(x, "learn 2 0;say 3;duet 1 2;again 9[week;];learn 0 1;");
        x.image();
        Pen.work(x, "learn 0 0;forget 2 2;forget 2 1;learn 1 0;");
        Pen.of(() -> x.told(99));
        Pen.of(() -> x.knows(0, 9));
        Pen.book(x, "0 0 9;1 1 0;");
        Pen.law(x, "9-hard+lessons%2+bad");
        Pen.feed(x, "week;week;");
        return x;
    }

    /** All that can be seen, but for status: what is so now, then behind each undo and each restore. */
    private static String all(PaidByHeart x) {
        List<Long> row = new ArrayList<>();
        row.add((long) x.fault());
        for (int i = 0; i < 3; i++) row.add((long) x.count(i));
        for (int i = 0; i < 12; i++) row.add((long) x.told(i));
        for (int poem = 0; poem < x.told(0); poem++) {
            for (int i = 0; i < 4; i++) row.add((long) x.poem(poem, i));
        }
        for (int debt = 0; debt < x.told(2); debt++) {
            for (int i = 0; i < 7; i++) row.add((long) x.debt(debt, i));
        }
        for (int i = 0; i < 2; i++) row.add((long) x.fits(i));
        for (int i = 0; i < 2; i++) row.add((long) x.look(i));
        row.add((long) x.would(7, 3, 4, 9, 33, 8, 5, 2));
        row.add((long) x.ahead(9, 0));
        row.add((long) x.season(3, 9, 9, 1));
        life(x, row);
        for (int left = x.undo(); left >= 0; left = x.undo()) {
            row.add((long) left);
            if (left < 3) life(x, row);
        }
        for (int left = x.restore(); left >= 0; left = x.restore()) {
            row.add((long) left);
            row.add((long) x.undo());
            life(x, row);
        }
        // what stands on the tape comes last, for it is read by that; a fault of it is seen, too
        row.add((long) x.work(x.count(1) >= 10 ? 10 : 0));
        row.add((long) x.fault());
        row.add((long) x.told(3));
        return row.toString();
    }

    private static void life(PaidByHeart x, List<Long> row) {
        for (int i = 3; i < 8; i++) row.add((long) x.told(i));
        for (int man = 0; man < x.told(1); man++) {
            for (int i = 1; i < 9; i++) row.add((long) x.man(man, i));
            for (int poem = 0; poem < x.told(0); poem++) row.add((long) x.knows(man, poem));
        }
    }
}
