/** Promises 8 and 36 to 39: works undone, images, refusals, counts. */
public final class KeepTest {
    private static final String VALLEY = "poem 10 0;poem 6 5;man 30 20;man 9 59;debt 0 0 0 3;debt 1 1 0 5;fade 2;";

    public static void main(String[] args) {
        undo();
        undoBringsAllBack();
        images();
        imagesKeepWorks();
        whatIsNotKept();
        refusedSteps();
        status();
        count();
        Pen.end();
    }

    private static void undo() {
        PaidByHeart x = Pen.of(VALLEY);
        Pen.due("none", -1, () -> x.undo());
        Pen.work(x, "");
        Pen.work(x, "forget 0 0;");
        Pen.work(x, "week;");
        Pen.work(x, "week;week;");
        Pen.due("the latest", 3, () -> x.undo());
        Pen.due("week 1", 1, () -> x.told(3));
        Pen.due("one more", 2, () -> x.undo());
        Pen.due("week 0", 0, () -> x.told(3));
        Pen.due("one of refused steps", 1, () -> x.undo());
        Pen.due("one of no steps", 0, () -> x.undo());
        Pen.due("none is left", -1, () -> x.undo());
        for (int i = 0; i < 16; i++) Pen.work(x, "week;");
        for (int i = 15; i >= 0; i--) {
            int left = i;
            Pen.due("undo to " + i, left, () -> x.undo());
            Pen.due("week " + i, left, () -> x.told(3));
        }
    }

    private static void undoBringsAllBack() {
        PaidByHeart x = Pen.of(VALLEY);
        Pen.work(x, "learn 0 0;learn 0 1;learn 1 1;say 1;again 9[week;];learn 1 1;learn 0 0;");
        String then = all(x);
        Pen.work(x, "learn 0 0;learn 0 1;say 0;duet 1 0;week;learn 1 0;say 1;forget 0 0;");
        Pen.due("another state", 0, () -> all(x).equals(then) ? 1 : 0);
        x.undo();
        same(x, then, "behind undo");
    }

    private static void images() {
        PaidByHeart x = Pen.of(VALLEY);
        Pen.due("none", -1, () -> x.restore());
        Pen.due("the first", 1, () -> x.image());
        Pen.work(x, "week;");
        Pen.due("the second", 2, () -> x.image());
        Pen.work(x, "week;");
        Pen.due("the third", 3, () -> x.image());
        Pen.due("no fourth", -1, () -> x.image());
        Pen.work(x, "week;");
        Pen.due("no fourth still", -1, () -> x.image());
        Pen.due("back to the third", 2, () -> x.restore());
        Pen.due("week 2", 2, () -> x.told(3));
        Pen.due("back to the second", 1, () -> x.restore());
        Pen.due("week 1", 1, () -> x.told(3));
        Pen.work(x, "week;week;");
        Pen.due("a second again", 2, () -> x.image());
        Pen.due("is as it was", 1, () -> x.restore());
        Pen.due("week 3", 3, () -> x.told(3));
        Pen.due("back to the first", 0, () -> x.restore());
        Pen.due("week 0", 0, () -> x.told(3));
        Pen.due("no more", -1, () -> x.restore());
    }

    private static void imagesKeepWorks() {
        PaidByHeart x = Pen.of(VALLEY);
        Pen.work(x, "learn 0 0;");
        String first = all(x);
        Pen.work(x, "learn 1 1;say 1;week;");
        String second = all(x);
        x.image();
        x.undo();
        x.undo();
        Pen.work(x, "week;week;week;");
        Pen.work(x, "learn 0 1;");
        Pen.work(x, "learn 1 0;");
        Pen.due("three works", 3, () -> x.count(2));
        x.restore();
        same(x, second, "behind restore");
        Pen.due("two works", 2, () -> x.count(2));
        Pen.due("undo one", 1, () -> x.undo());
        same(x, first, "behind undo of a restored work");
        Pen.due("undo the other one", 0, () -> x.undo());
        Pen.due("nobody knows a line", 0, () -> x.told(8));
        // the limit of 16 is that of the image, too
        PaidByHeart y = Pen.of(VALLEY);
        for (int i = 0; i < 16; i++) Pen.work(y, "week;");
        y.image();
        for (int i = 0; i < 16; i++) y.undo();
        y.restore();
        Pen.due("16 again", -20, () -> Pen.work(y, "week;"));
        for (int i = 15; i >= 0; i--) {
            int left = i;
            Pen.due("undo to " + i, left, () -> y.undo());
            Pen.due("week " + i, left, () -> y.told(3));
        }
    }

    private static void whatIsNotKept() {
        PaidByHeart x = Pen.of(VALLEY);
        x.image();
        Pen.work(x, "week;");
        Pen.law(x, "4");
        Pen.book(x, "0 0 5;");
        Pen.law(x, "bad");
        Pen.feed(x, "week;");
        Pen.illegal("an argument", () -> x.told(77));
        Pen.noSuch("an element", () -> x.pays(77));
        x.undo();
        x.restore();
        Pen.due("law", 4, () -> x.learns(0, 0));
        Pen.due("book", 1, () -> x.told(9));
        Pen.due("fault", 0, () -> x.fault());
        Pen.due("tape", 20, () -> x.count(1));
        Pen.due("status(0)", 1, () -> x.status(0));
        Pen.due("status(1)", 1, () -> x.status(1));
    }

    private static void refusedSteps() {
        PaidByHeart x = Pen.of(VALLEY);
        Pen.due("ahead of any", 0, () -> x.told(10));
        Pen.work(x, "forget 0 0;forget 0 1;week;");
        Pen.due("two", 2, () -> x.told(10));
        x.image();
        Pen.due("an image leaves it", 2, () -> x.told(10));
        Pen.law(x, "4");
        Pen.due("a law leaves it", 2, () -> x.told(10));
        x.undo();
        Pen.due("behind undo", 0, () -> x.told(10));
        Pen.work(x, "forget 0 0;");
        Pen.due("one", 1, () -> x.told(10));
        x.restore();
        Pen.due("behind restore", 0, () -> x.told(10));
        Pen.work(x, "forget 0 0;");
        Pen.due("no image", -1, () -> x.restore());
        Pen.due("nothing was restored", 1, () -> x.told(10));
        Pen.work(x, "week;");
        Pen.due("the latest counts", 0, () -> x.told(10));
    }

    private static void status() {
        PaidByHeart x = Pen.of(VALLEY);
        Pen.due("none", 0, () -> x.status(0) + x.status(1));
        for (int i = 0; i < 5; i++) Pen.noSuch("poem(9, 9)", () -> x.poem(9, 9));
        for (int i = 0; i < 3; i++) Pen.illegal("poem(0, 9)", () -> x.poem(0, 9));
        Pen.due("status(0)", 5, () -> x.status(0));
        Pen.due("status(1)", 3, () -> x.status(1));
        Pen.illegal("span of no debt", () -> x.span(1, 1, 0, 1, 0, 9));
        Pen.due("that is an argument", 4, () -> x.status(1));
        Pen.work(x, "bad");
        x.restore();
        Pen.due("faults are no refusals", 4, () -> x.status(1));
        for (int what : new int[] {-1, 2, 99, Integer.MIN_VALUE}) {
            Pen.due("status(" + what + ")", -1, () -> x.status(what));
        }
        Pen.due("nor is that one", 4, () -> x.status(1));
    }

    private static void count() {
        PaidByHeart x = Pen.of(VALLEY);
        Pen.work(x, "week;");
        Pen.work(x, "week;");
        x.image();
        Pen.feed(x, "something");
        Pen.due("images", 1, () -> x.count(0));
        Pen.due("bytes", 20, () -> x.count(1));
        Pen.due("works", 2, () -> x.count(2));
        for (int what : new int[] {-1, 3, 99, Integer.MIN_VALUE}) {
            Pen.due("count(" + what + ")", -1, () -> x.count(what));
        }
    }

    private static void same(PaidByHeart x, String then, String when) {
        Pen.due(when + ": " + all(x) + " for " + then, 1, () -> all(x).equals(then) ? 1 : 0);
    }

    /** All that work changes, but for told(10). */
    private static String all(PaidByHeart x) {
        StringBuilder row = new StringBuilder();
        for (int what = 0; what < 9; what++) row.append(x.told(what)).append(' ');
        for (int man = 0; man < x.told(1); man++) {
            for (int what = 0; what < 9; what++) row.append(x.man(man, what)).append(' ');
            for (int poem = 0; poem < x.told(0); poem++) row.append(x.knows(man, poem)).append(' ');
        }
        return row.toString();
    }
}
