/** Promises 22 to 24, 34 and 35: fractions, fair poems, candles, seasons. */
public final class SumsTest {
    public static void main(String[] args) {
        kept();
        fair();
        candles();
        season();
        seasonByHand();
        span();
        Pen.end();
    }

    private static void kept() {
        PaidByHeart x = new PaidByHeart();
        fraction(x, 0, 0, 0, 1, 1);
        fraction(x, 0, 1, 0, 0, 1);
        fraction(x, 1, 1, 4, 3, 4);
        fraction(x, 1, 1, 1, 15, 16);
        fraction(x, 2, 1, 8, 3, 4);
        fraction(x, 2, 2, 8, 1, 4);
        fraction(x, 3, 0, 5, 1, 1);
        fraction(x, 3, 4, 0, 0, 1);
        fraction(x, 5, 5, 0, 1, 1);
        fraction(x, 5, 1, 16, 0, 1);
        fraction(x, 5, 0, 16, 1, 1);
        fraction(x, 12, 13, 7, 0, 1);
        // 15 to the 12th by 16 to the 12th
        fraction(x, 12, 12, 1, 129746337890625L, 281474976710656L);
        // all but the one way to lose 12 lines of 12 by 1 of 16 each
        fraction(x, 12, 1, 1, 281474976710655L, 281474976710656L);
        // 10 or more of 12 by halves: 66 + 12 + 1 of 4096
        fraction(x, 12, 10, 8, 79, 4096);
        int[] most = {12, 13, 16, 1};
        for (int i = 0; i < 4; i++) {
            for (int wrong : new int[] {-1, most[i] + 1, Integer.MIN_VALUE, Integer.MAX_VALUE}) {
                int[] a = new int[4];
                a[i] = wrong;
                Pen.illegal("kept, " + i + " of " + wrong, () -> x.kept(a[0], a[1], a[2], a[3]));
            }
        }
    }

    private static void fraction(PaidByHeart x, int n, int k, int q, long above, long below) {
        Pen.due("kept " + n + " " + k + " " + q + " above", above, () -> x.kept(n, k, q, 0));
        Pen.due("kept " + n + " " + k + " " + q + " below", below, () -> x.kept(n, k, q, 1));
    }

    private static void fair() {
        // more for fair, more for cruel, as much
        rests(5, 3, 2, 0, 10);
        rests(99, 0, 2, 0, 198);
        rests(3, 5, 3, 1, 5);
        rests(0, 99, 3, 1, 99);
        rests(7, 7, 4, 0, 14);
        rests(0, 0, 4, 0, 0);
        PaidByHeart x = new PaidByHeart();
        Pen.illegal("fair(-1, 0, 0)", () -> x.fair(-1, 0, 0));
        Pen.illegal("fair(100, 0, 0)", () -> x.fair(100, 0, 0));
        Pen.illegal("fair(0, -1, 0)", () -> x.fair(0, -1, 0));
        Pen.illegal("fair(0, 100, 0)", () -> x.fair(0, 100, 0));
        Pen.illegal("fair(0, 0, -1)", () -> x.fair(0, 0, -1));
        Pen.illegal("fair(0, 0, 3)", () -> x.fair(0, 0, 3));
    }

    private static void rests(int v, int w, int many, int first, int together) {
        PaidByHeart x = new PaidByHeart();
        Pen.due("fair " + v + " " + w, many, () -> x.fair(v, w, 0));
        Pen.due("first of " + v + " " + w, first, () -> x.fair(v, w, 1));
        Pen.due("together by " + v + " " + w, together, () -> x.fair(v, w, 2));
    }

    private static void candles() {
        PaidByHeart x = Pen.of("poem 20 0;poem 20 0;man 2 20;man 30 20;man 5 20;");
        Pen.law(x, "10");
        // 2, 10 and 5 lines
        Pen.work(x, "learn 0 0;learn 1 0;learn 2 1;");
        int[][] given = {{0, 0, 0}, {0, 0, 0}, {0, 0, 0}, {1, 1, 1}, {1, 1, 1}, {1, 1, 1}, {2, 2, 2}, {2, 2, 2},
            {2, 3, 3}, {2, 3, 3}, {2, 4, 4}, {2, 4, 4}, {2, 5, 5}, {2, 6, 5}, {2, 7, 5}, {2, 8, 5}, {2, 9, 5},
            {2, 10, 5}, {2, 10, 5}};
        for (int i = 0; i < given.length; i++) {
            int n = i;
            for (int j = 0; j < 3; j++) {
                int man = j;
                Pen.due("candles of " + n + " to " + man, given[n][man], () -> x.candles(man, 7, n));
            }
        }
        Pen.due("all of 999", 10, () -> x.candles(1, 7, 999));
        Pen.due("he is none of them", 0, () -> x.candles(1, 5, 999));
        Pen.due("nobody", 0, () -> x.candles(1, 0, 9));
        Pen.due("two of them", 3, () -> x.candles(1, 6, 6));
        Pen.due("one of them", 6, () -> x.candles(1, 2, 6));
        Pen.illegal("bits of no men", () -> x.candles(1, 8, 6));
        Pen.illegal("bits below 0", () -> x.candles(1, -1, 6));
        Pen.illegal("n of -1", () -> x.candles(1, 7, -1));
        Pen.illegal("n of 1000", () -> x.candles(1, 7, 1000));
        Pen.noSuch("no such man", () -> x.candles(3, 8, -1));
        Pen.noSuch("no man below 0", () -> x.candles(-1, 8, -1));
    }

    private static void season() {
        PaidByHeart x = new PaidByHeart();
        Pen.due("no men, no poems", 0, () -> x.season(5, 16, 48, 1));
        PaidByHeart y = Pen.of("poem 5 0;");
        Pen.due("no men", 0, () -> y.season(5, 16, 48, 3));
        PaidByHeart z = Pen.of("poem 5 0;man 9 59;");
        Pen.work(z, "learn 0 0;");
        Pen.due("weeks go by", 0, () -> z.season(5, 16, 9, 3));
        Pen.due("and one grows old: a lesson more, of 4", 4, () -> z.season(5, 16, 48, 1));
        Pen.due("in it, that only", 1, () -> z.season(5, 16, 48, 3));
        int[][] limits = {{0, 16}, {1, 48}, {0, 3}};
        for (int i = 0; i < 3; i++) {
            for (int wrong : new int[] {limits[i][0] - 1, limits[i][1] + 1, Integer.MIN_VALUE, Integer.MAX_VALUE}) {
                int[] a = {0, 1, 0};
                a[i] = wrong;
                Pen.illegal("season, " + i + " of " + wrong, () -> z.season(1, a[0], a[1], a[2]));
            }
        }
    }

    /** One man, one poem, one debt: the draws decide on saying alone. */
    private static void seasonByHand() {
        // one lesson gives all 5 lines; a slip is not possible behind it in the same week
        PaidByHeart x = Pen.of("poem 5 0;man 9 20;debt 0 0 0 9;fade 0;");
        Pen.due("q 16: said in the first week", 1, () -> x.season(1, 16, 1, 0));
        Pen.due("q 0: never", 0, () -> x.season(1, 0, 48, 0));
        // the draws behind seed 1: man, poem, then by 16
        int seed = 1;
        for (int i = 0; i < 3; i++) seed = seed * 1103515245 + 12345;
        int third = (seed >>> 16 & 32767) % 16;
        Pen.due("just below q", 1, () -> x.season(1, third + 1, 1, 0));
        Pen.due("not below q", 0, () -> x.season(1, third, 1, 0));
        // learnt 4 of 12, said, slipped, each week
        PaidByHeart y = Pen.of("poem 12 5;man 30 20;debt 0 0 0 9;fade 0;");
        Pen.due("slips", 48, () -> y.season(77, 16, 48, 2));
        Pen.due("lessons", 48, () -> y.season(77, 16, 48, 3));
        Pen.due("lines", 0, () -> y.season(77, 16, 48, 1));
        Pen.work(y, "say 0;learn 0 0;");
        Pen.due("slips in it", 0, () -> y.season(77, 0, 3, 2));
        Pen.due("lessons in it", 2, () -> y.season(77, 0, 3, 3));
        Pen.due("lines then", 12, () -> y.season(77, 0, 3, 1));
        Pen.due("nothing stays changed", 4, () -> y.told(8));
        Pen.due("nor the week", 0, () -> y.told(3));
        // lessons and slips ahead of it are none of its own, of the second man, too
        PaidByHeart z = Pen.of("poem 40 8;man 99 20;man 99 20;man 99 20;debt 1 0 0 9;debt 2 0 0 9;fade 0;");
        Pen.work(z, "learn 0 0;learn 1 0;learn 1 0;learn 2 0;say 0;say 1;say 1;");
        for (int i = 0; i < 20; i++) {
            int from = i;
            Pen.due("lessons from " + from, 7, () -> z.season(from, 0, 7, 3));
            Pen.due("slips from " + from, 7, () -> z.season(from, 16, 7, 2));
        }
        seasonWithoutDebts();
    }

    /** The draw by 16 is made without debts, too: else the second week would be drawn otherwise. */
    private static void seasonWithoutDebts() {
        PaidByHeart x = Pen.of("poem 20 0;poem 20 0;poem 20 0;man 99 20;man 99 20;fade 0;");
        Pen.law(x, "1+man*4");
        for (int from = -50; from < 50; from++) {
            int start = from;
            int seed = from;
            int lines = 0;
            for (int week = 0; week < 4; week++) {
                seed = seed * 1103515245 + 12345;
                lines += 1 + (seed >>> 16 & 32767) % 2 * 4;
                seed = seed * 1103515245 + 12345;
                seed = seed * 1103515245 + 12345;
            }
            Pen.due("four weeks from " + from, lines, () -> x.season(start, 16, 4, 1));
        }
    }

    private static void span() {
        String valley = "poem 20 3;poem 9 6;man 20 20;man 8 59;debt 0 0 0 3;debt 1 1 1 5;";
        for (int seed : new int[] {0, 1, -1, 123456789, Integer.MAX_VALUE - 3, Integer.MIN_VALUE}) {
            PaidByHeart x = Pen.of(valley);
            for (int many = 1; many <= 10; many += 3) {
                int fewest = Integer.MAX_VALUE;
                int most = Integer.MIN_VALUE;
                int[] paid = new int[2];
                for (int i = 0; i < many; i++) {
                    int lines = x.season(seed + i, 9, 13, 1);
                    fewest = Math.min(fewest, lines);
                    most = Math.max(most, lines);
                    paid[0] += x.season(seed + i, 9, 13, 0) & 1;
                    paid[1] += x.season(seed + i, 9, 13, 0) >> 1;
                }
                int count = many;
                Pen.due("fewest of " + many + " from " + seed, fewest, () -> x.span(seed, count, 9, 13, 0, 1));
                Pen.due("most of " + many + " from " + seed, most, () -> x.span(seed, count, 9, 13, 1, 0));
                Pen.due("paid 0 of " + many + " from " + seed, paid[0], () -> x.span(seed, count, 9, 13, 2, 0));
                Pen.due("paid 1 of " + many + " from " + seed, paid[1], () -> x.span(seed, count, 9, 13, 2, 1));
            }
        }
        PaidByHeart x = Pen.of(valley);
        int[][] limits = {{1, 10}, {0, 16}, {1, 48}, {0, 2}, {0, 1}};
        for (int i = 0; i < 5; i++) {
            for (int wrong : new int[] {limits[i][0] - 1, limits[i][1] + 1, Integer.MIN_VALUE, Integer.MAX_VALUE}) {
                int[] a = {1, 0, 1, 0, 0};
                a[i] = wrong;
                Pen.illegal("span, " + i + " of " + wrong, () -> x.span(1, a[0], a[1], a[2], a[3], a[4]));
            }
        }
        Pen.due("the least of all", 0, () -> x.span(1, 1, 0, 1, 2, 0));
        Pen.due("the most of all", x.span(1, 10, 16, 48, 1, 1), () -> x.span(1, 10, 16, 48, 1, 1));
        PaidByHeart z = Pen.of("poem 20 9;man 20 20;debt 0 0 0 9;");
        Pen.due("no lines, most", 0, () -> z.span(1, 3, 0, 5, 1, 0));
        Pen.due("no lines, fewest", 0, () -> z.span(1, 3, 0, 5, 0, 0));
        PaidByHeart y = Pen.of("poem 20 3;man 20 20;");
        Pen.illegal("no debts", () -> y.span(1, 1, 0, 1, 1, 0));
    }
}
