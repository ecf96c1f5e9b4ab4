import com.sun.management.ThreadMXBean;
import java.lang.management.ManagementFactory;

/** All calls of a run share one room: an object is small, and a call that is not refused makes nothing. */
public final class RoomTest {
    private static final ThreadMXBean MEMORY = (ThreadMXBean) ManagementFactory.getThreadMXBean();
    private static long sink = 0;

    public static void main(String[] args) {
        measure();
        long made = MEMORY.getCurrentThreadAllocatedBytes();
        PaidByHeart x = new PaidByHeart();
        long anObject = MEMORY.getCurrentThreadAllocatedBytes() - made;
        System.out.println("an object: " + anObject + " bytes");
        Pen.due("an object's bytes", 1, () -> anObject < 40000 ? 1 : 0);
        long calls = measure();
        System.out.println("calls of all kinds: " + calls + " bytes");
        // the way the bytes are asked for makes some itself
        Pen.due("what calls make", 1, () -> calls < 2000 ? 1 : 0);
        Pen.end();
    }

    private static long measure() {
        PaidByHeart x = new PaidByHeart();
        String[] texts = {"poem 10 0;poem 6 5;poem 20 9;poem 40 1;man 30 20;man 8 59;man 99 30;"
            + "debt 0 0 0 3;debt 0 1 1 5;debt 1 1 2 9;debt 0 2 3 2;debt 0 3 3 40;debt 0 3 0 40;debt 0 3 1 40;fade 2;",
            "least[9-hard,most[(lessons+age)/3,2]]*week%7+1", "0 0 9;1 1 0;",
            "again 40[learn 0 0;learn 1 1;learn 2 3;say 3;duet 2 0;forget 0 1;week;];"};
        int[][] numbers = new int[texts.length][];
        for (int i = 0; i < texts.length; i++) numbers[i] = Pen.numbers(texts[i]);
        int[] lengths = new int[texts.length];
        for (int i = 0; i < texts.length; i++) lengths[i] = texts[i].length();
        long before = MEMORY.getCurrentThreadAllocatedBytes();
        for (int round = 0; round < 8; round++) {
            feed(x, numbers[0]);
            sink += x.valley(lengths[0]);
            feed(x, numbers[1]);
            sink += x.law(lengths[1]);
            feed(x, numbers[2]);
            sink += x.book(lengths[2]);
            for (int i = 0; i < 3; i++) {
                feed(x, numbers[3]);
                sink += x.work(lengths[3]) + x.image();
                ask(x);
            }
            sink += x.undo() + x.restore() + x.restore();
        }
        return MEMORY.getCurrentThreadAllocatedBytes() - before;
    }

    private static void feed(PaidByHeart x, int[] n) {
        for (int i = 0; i < n.length; i += 5) sink += x.feed(n[i], n[i + 1], n[i + 2], n[i + 3], n[i + 4]);
    }

    private static void ask(PaidByHeart x) {
        for (int what = 0; what < 12; what++) sink += x.told(what);
        for (int what = 0; what < 4; what++) sink += x.poem(0, what) + x.season(what, 9, 48, what);
        for (int what = 0; what < 9; what++) sink += x.man(0, what);
        for (int what = 0; what < 7; what++) sink += x.debt(0, what);
        for (int what = 0; what < 2; what++) {
            sink += x.fits(what) + x.look(what) + x.fullest(what) + x.next(what) + x.closest(0, what) + x.best(0, what);
            sink += x.kept(12, 5, 7, what) + x.status(what) + x.count(what);
        }
        for (int what = 0; what < 3; what++) sink += x.ahead(99, what) + x.fair(3, 5, what) + x.span(1, 10, 9, 48, what, 0);
        for (int man = 0; man < 3; man++) {
            sink += x.pays(man) + x.hardest(man) + x.candles(man, 7, 50);
            for (int poem = 0; poem < 4; poem++) {
                sink += x.knows(man, poem) + x.learns(man, poem) + x.lessons(man, poem) + x.fades(man, poem);
                sink += x.gains(man, poem) + x.chorus(poem, 7);
            }
        }
        sink += x.would(1, 2, 3, 4, 10, 6, 7, 5) + x.free() + x.partners(0) + x.fault();
    }
}
