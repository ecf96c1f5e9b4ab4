import java.math.BigInteger;

/** Each sentence of the document on what is asked that names an edge, both its sides: ==== 3., promises 15 to 35. */
public final class EdgeAskedTest {
    public static void main(String[] args) {
        would();
        ahead();
        lessonsNone();
        lessonsTo40();
        lessonsRefused();
        lessonsAheadOfTheWeeksEnd();
        needCutUp();
        paysByMemory();
        paysByNeeds();
        paysMost();
        hardest();
        fits();
        look();
        kept();
        fair();
        candles();
        fullest();
        freeMen();
        partners();
        fades();
        next();
        gains();
        closest();
        best();
        chorus();
        seasonDraws();
        seasonOfNothing();
        seasonLimits();
        span();
        elements();
        Pen.end();
    }

    // promise 15: "lines (1 to 40), hard (0 to 9), known (0 to 40), room (0 to 99), age (10 to 150), .."
    private static void would() {
        int[] least = {1, 0, 0, 0, 10, 0, 0, 0};
        int[] most = {40, 9, 40, 99, 150, 999, 400, 5};
        String[] facts = {"lines", "hard", "known", "room", "age", "lessons", "week", "man"};
        for (int i = 0; i < 8; i++) {
            int place = i;
            for (int[] others : new int[][] {least, most}) {
                PaidByHeart x = new PaidByHeart();
                for (int n : new int[] {least[i], least[i] + 1, most[i] - 1, most[i]}) {
                    Pen.law(x, facts[i] + "-" + Math.max(0, n - 7));
                    Pen.due(facts[i] + " of " + n, Math.min(n, 7), () -> wouldBy(x, others, place, n));
                }
                for (int n : new int[] {least[i] - 1, most[i] + 1, Integer.MIN_VALUE, Integer.MAX_VALUE}) {
                    Pen.illegal(facts[i] + " of " + n, () -> wouldBy(x, others, place, n));
                }
            }
        }
        PaidByHeart y = new PaidByHeart();
        Pen.due("known may be above lines", 9, () -> y.would(1, 0, 40, 0, 10, 0, 0, 5));
    }

    private static int wouldBy(PaidByHeart x, int[] others, int place, int n) {
        int[] a = others.clone();
        a[place] = n;
        return x.would(a[0], a[1], a[2], a[3], a[4], a[5], a[6], a[7]);
    }

    // promise 16: "In n WEEKS (0 to 99)"; "(beyond 400, too)"
    private static void ahead() {
        PaidByHeart x = Pen.of("poem 40 9;man 40 59;man 40 70;debt 0 0 0 40;debt 1 0 0 0;fade 9;");
        Pen.law(x, "20");
        Pen.work(x, "again 2[learn 0 0;];learn 1 0;week;");
        for (int what = 0; what < 3; what++) {
            int asked = what;
            Edges.argument("ahead, what " + what, 0, 99, n -> x.ahead(n, asked));
        }
        Edges.argument("ahead, what", 0, 2, what -> x.ahead(0, what));
        Pen.due("in 0 weeks: lines", 60, () -> x.ahead(0, 0));
        Pen.due("in 0 weeks: late", 2, () -> x.ahead(0, 1));
        Pen.due("in 0 weeks: old", 0, () -> x.ahead(0, 2));
        Pen.due("in 8 weeks, the 9th", 44, () -> x.ahead(8, 0));
        Pen.due("nobody is old by then", 0, () -> x.ahead(8, 2));
        Pen.due("in 9 weeks, the 10th", 11, () -> x.ahead(9, 0));
        Pen.due("one is old", 1, () -> x.ahead(9, 2));
        Pen.due("in 20 weeks", 0, () -> x.ahead(20, 0));
        Pen.due("due in week 40, that week", 2, () -> x.ahead(39, 1));
        Pen.due("a week behind it", 3, () -> x.ahead(40, 1));
        PaidByHeart y = Pen.of("poem 40 9;man 40 13;fade 9;");
        Pen.work(y, "again 39[week;week;week;week;week;];");
        Pen.work(y, "again 39[week;week;week;week;week;];week;week;week;week;");
        Pen.work(y, "again 9[week;];");
        Pen.law(y, "20");
        Pen.work(y, "learn 0 0;learn 0 0;");
        Pen.due("week 400, fresh", 40, () -> y.ahead(1, 0));
        Pen.due("it fades beyond", 31, () -> y.ahead(10, 0));
        Pen.due("age 59 in week 469", 0, () -> y.ahead(69, 2));
        Pen.due("age 60 in week 470", 1, () -> y.ahead(70, 2));
        Pen.due("week 499", 1, () -> y.ahead(99, 2));
    }

    // "LESSONS: in how many lessons (0 to 40) .. he would know all lines of it; NONE"
    private static void lessonsNone() {
        PaidByHeart x = Pen.of("poem 10 9;poem 10 0;man 9 20;man 10 20;man 99 59;fade 1;");
        Pen.due("nothing is learnt", -1, () -> x.lessons(1, 0));
        Pen.due("a line too little room", -1, () -> x.lessons(0, 1));
        Pen.due("just room", 2, () -> x.lessons(1, 1));
        Pen.law(x, "9");
        Pen.work(x, "learn 1 0;");
        Pen.due("no room beside it", -1, () -> x.lessons(0, 0));
        // what he knows of the other poem fades by 9 a week and makes room again
        Pen.due("room comes by fading", 3, () -> x.lessons(1, 1));
    }

    // "(0 to 40)"
    private static void lessonsTo40() {
        for (int lines = 1; lines <= 40; lines++) {
            PaidByHeart x = Pen.of("poem " + lines + " 9;man " + lines + " 20;fade 1;");
            int all = lines;
            for (int learns : new int[] {1, 2, 7, 19, 20}) {
                Pen.law(x, Integer.toString(learns));
                Pen.due(lines + " by " + learns, (all + learns - 1) / learns, () -> x.lessons(0, 0));
            }
        }
        PaidByHeart y = Pen.of("poem 40 9;man 99 20;fade 0;");
        Pen.law(y, "1");
        Pen.due("40 by 40", 40, () -> y.lessons(0, 0));
        Pen.law(y, "least[1,week]");
        Pen.due("39 by 40", -1, () -> y.lessons(0, 0));
        Pen.work(y, "week;");
        Pen.due("40 by 40 from week 1 on", 40, () -> y.lessons(0, 0));
        Pen.law(y, "least[1,week-1]");
        Pen.due("39 again", -1, () -> y.lessons(0, 0));
        Pen.law(y, "1");
        Pen.work(y, "learn 0 0;");
        Pen.law(y, "least[1,week-1]");
        Pen.due("one known, 39 by 40", 40, () -> y.lessons(0, 0));
    }

    // "a lesson that is REFUSED goes by as one"
    private static void lessonsRefused() {
        PaidByHeart x = Pen.of("poem 1 9;poem 2 9;man 9 20;fade 1;");
        int[] first = {1, 2, 3, 38, 39, 40, 41, 99};
        for (int from : first) {
            Pen.law(x, "week/" + Math.max(1, from - 1) + (from == 1 ? "+1" : ""));
            Pen.due("the lesson of week " + (from - 1), from <= 40 ? from : -1, () -> x.lessons(0, 0));
        }
        // refused in odd weeks, at whose end all of it fades
        Pen.law(x, "1-week%2");
        Pen.due("it fades behind a refused one", -1, () -> x.lessons(0, 1));
        Pen.law(x, "(week+1)%2*2");
        Pen.due("both at once", 1, () -> x.lessons(0, 1));
        Pen.law(x, "lessons+1");
        Pen.due("refused ones are not had: 1, then 2 of 2", 2, () -> x.lessons(0, 1));
    }

    // "(looked at ahead of the first and, behind each lesson, ahead of the WEEK's end ..)"
    private static void lessonsAheadOfTheWeeksEnd() {
        for (int lines = 8; lines <= 12; lines++) {
            PaidByHeart x = Pen.of("poem " + lines + " 0;man 24 59;man 20 59;fade 0;");
            Pen.law(x, "1");
            int all = lines;
            // the tenth lesson is in week 9, ahead of the end by which he is old
            Pen.due("24 by " + lines, all <= 10 ? all : 10 + all, () -> x.lessons(0, 0));
            Pen.due("20 by " + lines, all <= 10 ? all : -1, () -> x.lessons(1, 0));
        }
        PaidByHeart y = Pen.of("poem 9 9;man 9 59;fade 1;");
        Pen.work(y, "again 9[week;];");
        Pen.law(y, "9");
        Pen.work(y, "learn 0 0;");
        Pen.due("all is known, though he is old then", 0, () -> y.lessons(0, 0));
        PaidByHeart z = Pen.of("poem 9 9;man 9 20;fade 1;");
        Pen.law(z, "9");
        Pen.work(z, "learn 0 0;week;");
        Pen.due("all is known, though it fades then", 0, () -> z.lessons(0, 0));
        Pen.work(z, "week;");
        Pen.due("it faded", 1, () -> z.lessons(0, 0));
    }

    // "NEED: 0, if .. all lines; else those he does not know, by what he LEARNS of it now (cut up; 41, if .. none)"
    private static void needCutUp() {
        for (int lines = 1; lines <= 40; lines++) {
            PaidByHeart x = Pen.of("poem " + lines + " 9;man 1 20;debt 0 0 0 0;");
            int all = lines;
            for (int i = 1; i <= 20; i++) {
                int learns = i;
                Pen.law(x, Integer.toString(i));
                Pen.due(lines + " by " + i, (all + learns - 1) / learns, () -> x.debt(0, 6));
            }
            Pen.law(x, "0");
            Pen.due(lines + " by none", 41, () -> x.debt(0, 6));
            Pen.due("so it is closest", 41, () -> x.closest(0, 1));
            Pen.law(x, "known");
            Pen.due("by what he learns now", 41, () -> x.debt(0, 6));
            Pen.law(x, "1");
            Pen.work(x, "learn 0 0;");
            Pen.law(x, "known");
            Pen.due("one known of " + lines, all - 1, () -> x.debt(0, 6));
            Pen.law(x, "0-1");
            Pen.due("below 0 is none", all == 1 ? 0 : 41, () -> x.debt(0, 6));
        }
    }

    // "whose LINES (of unlike POEMS once) together are no more than his MEMORY (half of it, if he is OLD)"
    private static void paysByMemory() {
        for (int memory = 9; memory <= 12; memory++) {
            String man = "man " + memory + " 20;";
            PaidByHeart x = Pen.of("poem 10 0;" + man + "debt 0 0 0 40;debt 0 0 0 40;");
            int one = memory >= 10 ? 3 : 0;
            Pen.due("10 of " + memory, one, () -> x.pays(0));
            PaidByHeart y = Pen.of("poem 5 0;poem 6 0;" + man + "debt 0 0 0 10;debt 0 1 0 20;debt 0 0 0 30;");
            int all = memory >= 11 ? 7 : 5;
            Pen.due("5, 6, 5 of " + memory, all, () -> y.pays(0));
        }
        for (int memory : new int[] {19, 20, 21, 22}) {
            PaidByHeart x = Pen.of("poem 10 0;poem 11 0;man " + memory + " 59;debt 0 0 0 40;debt 0 1 0 40;fade 0;");
            int young = memory < 21 ? 2 : 3;
            Pen.due("young, of " + memory, young, () -> x.pays(0));
            Pen.work(x, "again 9[week;];");
            Pen.due("59 still", young, () -> x.pays(0));
            Pen.work(x, "week;");
            int old = memory < 20 ? 0 : memory < 22 ? 1 : 2;
            Pen.due("half of " + memory, old, () -> x.pays(0));
        }
        // what he knows takes nothing of it
        PaidByHeart z = Pen.of("poem 9 0;poem 9 0;man 18 20;debt 0 0 0 40;debt 0 1 0 40;");
        Pen.work(z, "learn 0 0;");
        Pen.due("memory, not room", 3, () -> z.pays(0));
    }

    // "whose NEEDS, taken one behind the other by DUE .., each end by its DUE less this WEEK"
    private static void paysByNeeds() {
        for (int due = 0; due <= 3; due++) {
            PaidByHeart x = Pen.of("poem 10 0;man 99 20;debt 0 0 0 " + due + ";");
            Pen.due("2 by " + due, due >= 2 ? 1 : 0, () -> x.pays(0));
            Pen.work(x, "week;");
            Pen.due("2 by " + due + " less 1", due >= 3 ? 1 : 0, () -> x.pays(0));
        }
        for (int first = 1; first <= 3; first++) {
            for (int second = 1; second <= 5; second++) {
                PaidByHeart x = Pen.of("poem 10 0;poem 10 0;man 99 20;debt 0 0 0 " + first + ";debt 0 1 0 " + second + ";");
                int one = first >= 2 ? 1 : second >= 2 ? 2 : 0;
                int both = Math.min(first, second) >= 2 && Math.max(first, second) >= 4 ? 3 : one;
                Pen.due("2 by " + first + ", 2 by " + second, both, () -> x.pays(0));
            }
        }
        // a need of 41, in as many weeks as there may be
        PaidByHeart y = Pen.of("poem 40 9;poem 1 0;man 99 20;debt 0 0 0 40;debt 0 1 0 40;");
        Pen.due("41 by 40", 2, () -> y.pays(0));
        Pen.law(y, "1");
        Pen.due("40 and 1 by 40: one of them, that of most lines", 1, () -> y.pays(0));
        Pen.law(y, "2");
        Pen.due("20 and 1 by 40", 3, () -> y.pays(0));
        // a need of 0: by its due, not a week behind
        PaidByHeart z = Pen.of("poem 1 0;man 99 20;debt 0 0 0 1;");
        Pen.work(z, "learn 0 0;week;");
        Pen.due("0 by 0", 1, () -> z.pays(0));
        Pen.work(z, "week;");
        Pen.due("0 by less than 0", 0, () -> z.pays(0));
    }

    // "that of most DEBTS; of as many that of most LINES (of each DEBT); of alike ones the least bits"
    private static void paysMost() {
        PaidByHeart x = Pen.of("poem 30 0;poem 10 0;poem 11 0;man 31 20;debt 0 0 0 40;debt 0 1 0 40;debt 0 2 0 40;");
        Pen.due("two short ones ahead of a long one", 6, () -> x.pays(0));
        PaidByHeart y = Pen.of("poem 6 0;poem 7 0;man 12 20;debt 0 0 0 40;debt 0 0 0 40;debt 0 1 0 40;debt 0 1 0 40;");
        Pen.due("each debt's lines count: 12 and 14", 12, () -> y.pays(0));
        PaidByHeart z = Pen.of("poem 7 0;poem 7 0;poem 7 0;man 20 20;debt 0 2 0 40;debt 0 1 0 40;debt 0 0 0 40;");
        Pen.due("of alike ones the least bits", 3, () -> z.pays(0));
        PaidByHeart w = Pen.of("poem 6 0;poem 7 0;poem 8 0;man 15 20;debt 0 0 0 40;debt 0 1 0 40;debt 0 2 0 40;");
        Pen.due("most lines of two that fit: 7 and 8", 6, () -> w.pays(0));
        PaidByHeart v = Pen.of("poem 6 0;man 15 20;man 15 20;debt 1 0 0 40;");
        Pen.due("none of his own", 0, () -> v.pays(0));
        Pen.due("the other man's", 1, () -> v.pays(1));
        Pen.work(v, "learn 1 0;say 0;");
        Pen.due("paid", 0, () -> v.pays(1));
        PaidByHeart u = Pen.of("poem 1 0;man 1 20;" + Pen.times(10, "debt 0 0 0 40;"));
        Pen.due("all ten", 1023, () -> u.pays(0));
        Pen.work(u, "learn 0 0;say 4;");
        Pen.due("all but the paid one", 1023 - 16, () -> u.pays(0));
    }

    // "HARDEST: the POEM for which LESSONS are most (NONE counts as more than any); of alike ones the first"
    private static void hardest() {
        Pen.due("NONE without poems", -1, () -> Pen.of("man 9 20;").hardest(0));
        Pen.due("the only one", 0, () -> Pen.of("poem 1 0;man 9 20;").hardest(0));
        PaidByHeart x = Pen.of("poem 39 0;poem 40 0;poem 40 0;man 99 20;");
        Pen.law(x, "1");
        Pen.due("40 ahead of 39, the first", 1, () -> x.hardest(0));
        PaidByHeart y = Pen.of("poem 40 0;poem 1 9;poem 2 9;man 99 20;");
        Pen.law(y, "least[1,9-hard]");
        Pen.due("NONE ahead of 40, the first", 1, () -> y.hardest(0));
        PaidByHeart z = Pen.of("poem 5 0;poem 5 0;poem 6 0;man 99 20;fade 0;");
        Pen.work(z, "learn 0 0;");
        Pen.due("0 behind 1", 1, () -> z.hardest(0));
        Pen.work(z, "learn 0 1;learn 0 2;");
        Pen.due("all are known: the first", 0, () -> z.hardest(0));
    }

    // "FITS: .. had that MAN had a lesson of that POEM now (as learn; nothing, if it is REFUSED), all lines are right"
    private static void fits() {
        PaidByHeart x = Pen.of("poem 9 5;poem 3 0;man 5 20;man 9 20;");
        fitting(x, "", 4, 0);
        fitting(x, "0 0 3;", 0, -1);
        fitting(x, "0 0 4;", 1, 0);
        fitting(x, "0 0 5;", 0, -1);
        fitting(x, "0 0 0;", 3, 1);
        fitting(x, "1 1 3;", 1, 11);
        fitting(x, "1 1 3;1 0 0;0 0 0;0 1 0;1 1 3;1 1 3;", 1, 11);
        fitting(x, "1 1 3;1 1 0;", 0, -1);
        fitting(x, "0 0 99;", 0, -1);
        Pen.work(x, "learn 0 0;");
        // of poem 1 there is room for one line
        fitting(x, "0 1 1;", 1, 1);
        fitting(x, "0 1 3;", 0, -1);
        fitting(x, "0 0 4;", 3, 1);
        fitting(x, "0 0 5;", 1, 0);
        Pen.work(x, "learn 0 0;");
        // both lessons of the first man are refused now
        fitting(x, "0 0 5;", 4, 0);
        fitting(x, "0 0 5;0 1 0;1 0 4;", 1, 10);
        Edges.argument("fits", 0, 1, what -> x.fits(what));
        Pen.due("no men", 0, () -> Pen.of("poem 9 5;").fits(0));
        Pen.due("no poems, the first", -1, () -> Pen.of("man 9 20;").fits(1));
    }

    private static void fitting(PaidByHeart x, String book, int many, int first) {
        Pen.book(x, book);
        Pen.due("fits by " + book, many, () -> x.fits(0));
        Pen.due("first by " + book, first, () -> x.fits(1));
    }

    // promise 21: "NONE both: all are in lines, or there are none"
    private static void look() {
        PaidByHeart x = Pen.of("poem 9 5;poem 3 9;man 5 20;man 9 20;man 9 20;");
        // pairs 0 1, 1 1 and 2 1 learn nothing: who is heard of them parts nothing
        looking(x, "", 0, 5);
        looking(x, "0 0 0;", 10, 4);
        looking(x, "0 0 0;1 0 0;", 20, 3);
        looking(x, "0 0 0;1 0 0;2 0 0;", 1, 3);
        looking(x, "0 0 4;", 1, 1);
        looking(x, "0 0 5;", 1, 0);
        looking(x, "0 0 0;0 1 0;1 0 0;1 1 0;2 0 0;", 21, 3);
        looking(x, "0 0 0;0 1 0;1 0 0;1 1 0;2 0 0;2 1 0;", -1, -1);
        looking(x, "0 0 9;0 1 0;1 0 0;1 1 0;2 0 0;2 1 0;", -1, -1);
        looking(new PaidByHeart(), "", -1, -1);
        looking(Pen.of("man 9 20;"), "", -1, -1);
        looking(Pen.of("poem 9 2;"), "", -1, -1);
        looking(Pen.of("poem 9 2;man 9 20;"), "", 0, 1);
        looking(Pen.of("poem 9 2;man 9 20;"), "0 0 0;", -1, -1);
        looking(Pen.of("poem 9 2;poem 9 2;man 9 20;"), "", 0, 1);
        Edges.argument("look", 0, 1, what -> x.look(what));
    }

    private static void looking(PaidByHeart x, String book, int pair, int left) {
        Pen.book(x, book);
        Pen.due("look by " + book, pair, () -> x.look(0));
        Pen.due("left by " + book, left, () -> x.look(1));
    }

    // promise 22: "KEPT of n (0 to 12), k (0 to 13), q (0 to 16): above (part 0), below (part 1), in least terms"
    private static void kept() {
        for (int i = 0; i <= 12; i++) {
            for (int j = 0; j <= 13; j++) {
                PaidByHeart x = new PaidByHeart();
                int n = i;
                int k = j;
                for (int lost = 0; lost <= 16; lost++) {
                    int q = lost;
                    BigInteger above = BigInteger.ZERO;
                    BigInteger ways = BigInteger.ONE;
                    for (int keeps = 0; keeps <= n; keeps++) {
                        if (keeps >= k) {
                            above = above.add(ways.multiply(BigInteger.valueOf(16 - q).pow(keeps))
                                .multiply(BigInteger.valueOf(q).pow(n - keeps)));
                        }
                        ways = ways.multiply(BigInteger.valueOf(n - keeps)).divide(BigInteger.valueOf(keeps + 1));
                    }
                    BigInteger below = BigInteger.valueOf(16).pow(n);
                    BigInteger common = above.gcd(below);
                    String which = "kept " + n + " " + k + " " + q;
                    Pen.due(which + " above", above.divide(common).longValueExact(), () -> x.kept(n, k, q, 0));
                    Pen.due(which + " below", below.divide(common).longValueExact(), () -> x.kept(n, k, q, 1));
                }
            }
        }
        PaidByHeart x = new PaidByHeart();
        Edges.argument("kept n", 0, 12, n -> x.kept(n, 0, 0, 0));
        Edges.argument("kept k", 0, 13, k -> x.kept(12, k, 16, 1));
        Edges.argument("kept q", 0, 16, q -> x.kept(12, 13, q, 0));
        Edges.argument("kept part", 0, 1, part -> x.kept(0, 0, 0, part));
    }

    // promise 23: "FAIR of two by v, w (0 to 99)"
    private static void fair() {
        for (int i = 0; i <= 99; i++) {
            PaidByHeart x = new PaidByHeart();
            int v = i;
            for (int j = 0; j <= 99; j++) {
                int w = j;
                String by = v + ", " + w;
                Pen.due("rests by " + by, v > w ? 2 : v < w ? 3 : 4, () -> x.fair(v, w, 0));
                Pen.due("first by " + by, v < w ? 1 : 0, () -> x.fair(v, w, 1));
                Pen.due("together by " + by, v < w ? w : 2 * v, () -> x.fair(v, w, 2));
            }
        }
        PaidByHeart x = new PaidByHeart();
        Edges.argument("fair v", 0, 99, v -> x.fair(v, 0, 0));
        Edges.argument("fair w", 0, 99, w -> x.fair(0, w, 0));
        Edges.argument("fair what", 0, 2, what -> x.fair(0, 0, what));
    }

    // "no more than a bound, the greatest by which no more than n are given (all, if they are no more)"
    private static void candles() {
        PaidByHeart x = Pen.of("poem 40 0;poem 40 0;poem 40 0;man 99 20;man 20 20;man 40 20;man 3 20;man 40 20;man 1 20;");
        Pen.law(x, "20");
        Pen.work(x, "again 2[learn 0 0;learn 0 1;learn 0 2;];again 2[learn 1 0;learn 2 0;learn 3 0;learn 5 0;];");
        int[] lines = {99, 20, 40, 3, 0, 1};
        for (int man = 0; man < 6; man++) {
            int who = man;
            Pen.due("lines of " + man, lines[man], () -> x.man(who, 3));
        }
        for (int set : new int[] {1, 16, 32, 33, 7, 40, 63}) {
            int sum = 0;
            for (int man = 0; man < 6; man++) sum += (set >> man & 1) * lines[man];
            for (int n : new int[] {0, 1, 2, 5, 6, 7, 30, sum - 1, sum, sum + 1, 999}) {
                if (n < 0) continue;
                int bound = 0;
                for (int b = 1; b <= 999; b++) {
                    int given = 0;
                    for (int man = 0; man < 6; man++) given += (set >> man & 1) * Math.min(b, lines[man]);
                    if (given <= n) bound = b;
                }
                int man = Integer.numberOfTrailingZeros(set);
                Pen.due(n + " candles among " + set, Math.min(bound, lines[man]), () -> x.candles(man, set, n));
            }
        }
        PaidByHeart y = Pen.of("poem 9 0;" + Pen.times(6, "man 9 20;"));
        Pen.due("none of them", 0, () -> y.candles(0, 62, 999));
        Pen.due("of nobody", 0, () -> y.candles(0, 0, 999));
        Edges.argument("candles n", 0, 999, n -> y.candles(5, 63, n));
        PaidByHeart z = Pen.of("poem 9 0;" + Pen.times(6, "man 9 20;"));
        Edges.argument("candles men", 0, 63, men -> z.candles(5, men, 0));
        Edges.element("candles man", 6, man -> z.candles(man, 63, 0));
        Pen.noSuch("no such man ahead of the rest", () -> z.candles(6, 64, 1000));
    }

    // promise 25: "of alike ones the first, how many (1); NONE both: there are no MEN"
    private static void fullest() {
        PaidByHeart x = new PaidByHeart();
        Edges.argument("fullest", 0, 1, what -> x.fullest(what));
        Pen.due("no men", -1, () -> x.fullest(0));
        Pen.due("no men, how many", -1, () -> x.fullest(1));
        PaidByHeart y = Pen.of("poem 4 0;poem 3 0;man 9 20;man 9 20;man 9 20;");
        Pen.due("nobody knows a line: the first", 0, () -> y.fullest(0));
        Pen.due("by none", 0, () -> y.fullest(1));
        Pen.work(y, "learn 2 1;learn 1 0;");
        Pen.due("4 ahead of 3", 1, () -> y.fullest(0));
        Pen.work(y, "learn 2 0;learn 1 1;");
        Pen.due("alike: the first", 1, () -> y.fullest(0));
        Pen.due("by 7", 7, () -> y.fullest(1));
        PaidByHeart z = Pen.of("man 9 20;");
        Pen.due("no poems: the first", 0, () -> z.fullest(0));
    }

    // promise 26: "MEN all of whose DEBTS are PAID (who has none, too)"
    private static void freeMen() {
        PaidByHeart x = Pen.of("poem 4 0;" + Pen.times(6, "man 9 20;") + "debt 0 0 0 9;debt 5 0 0 9;debt 5 0 0 9;");
        Pen.due("who has none", 30, () -> x.free());
        Pen.work(x, "learn 0 0;learn 5 0;say 0;say 1;");
        Pen.due("one of two is paid", 31, () -> x.free());
        Pen.work(x, "say 2;week;");
        Pen.due("all", 63, () -> x.free());
        Pen.due("no men", 0, () -> new PaidByHeart().free());
    }

    // promise 27: "with whom a duet would pay a DEBT now (0: it is PAID)"
    private static void partners() {
        PaidByHeart x = Pen.of("poem 10 0;man 4 20;man 5 20;man 6 20;man 7 20;man 10 20;debt 0 0 0 9;debt 4 0 0 9;");
        Pen.law(x, "10");
        Pen.work(x, "learn 0 0;learn 1 0;learn 2 0;learn 3 0;");
        Pen.due("4 and 6, 4 and 7", 12, () -> x.partners(0));
        Pen.due("none and any", 0, () -> x.partners(1));
        Pen.work(x, "learn 4 0;");
        Pen.due("all by himself, so with each, but not with himself", 15, () -> x.partners(1));
        Pen.work(x, "duet 0 4;");
        Pen.due("paid", 0, () -> x.partners(0));
        Edges.element("partners", 2, debt -> x.partners(debt));
    }

    // promise 28: "(by fading; all, if he becomes OLD by it)"
    private static void fades() {
        PaidByHeart x = Pen.of("poem 9 9;man 99 59;man 99 60;man 99 69;fade 2;");
        Pen.law(x, "9");
        Pen.work(x, "again 8[week;];learn 0 0;learn 1 0;learn 2 0;");
        for (int i = 0; i < 3; i++) {
            int man = i;
            Pen.due("fresh in week 8", 0, () -> x.fades(man, 0));
        }
        Pen.work(x, "week;");
        int[] less = {9, 4, 4};
        for (int i = 0; i < 3; i++) {
            int man = i;
            Pen.due("behind week 9", less[i], () -> x.fades(man, 0));
        }
        Pen.work(x, "week;");
        int[] then = {0, 4, 4};
        for (int i = 0; i < 3; i++) {
            int man = i;
            Pen.due("behind week 10", then[i], () -> x.fades(man, 0));
        }
        Pen.work(x, "week;");
        Pen.due("the one line that is left", 1, () -> x.fades(1, 0));
        // in week 400 as well
        PaidByHeart y = Pen.of("poem 9 9;man 99 20;fade 2;");
        for (int i = 0; i < 3; i++) Pen.work(y, "again 39[week;week;week;week;week;];");
        Pen.law(y, "9");
        Pen.work(y, "learn 0 0;week;");
        Pen.due("week 400", 400, () -> y.told(3));
        Pen.due("behind week 400", 0, () -> y.fades(0, 0));
    }

    // promise 29: "that which is DUE first, of alike ones the first .. NONE both: there is none"
    private static void next() {
        PaidByHeart x = Pen.of("poem 1 0;man 9 20;debt 0 0 0 40;debt 0 0 0 0;debt 0 0 0 0;");
        int[] debts = {1, 2, 0, -1};
        int[] weeks = {0, 0, 40, -1};
        Pen.work(x, "learn 0 0;week;");
        for (int i = 0; i < 4; i++) {
            int place = i;
            Pen.due("next, " + i, debts[i], () -> x.next(0));
            Pen.due("its week, " + i, weeks[i], () -> x.next(1));
            Pen.work(x, "say " + Math.max(0, debts[place]) + ";");
        }
        Edges.argument("next", 0, 1, what -> x.next(what));
        Pen.due("no debts", -1, () -> new PaidByHeart().next(1));
    }

    // promise 30: "(0: it would be REFUSED)"
    private static void gains() {
        for (int memory = 1; memory <= 6; memory++) {
            for (int lines = 1; lines <= 6; lines++) {
                PaidByHeart x = Pen.of("poem " + lines + " 9;man " + memory + " 20;");
                for (int learns = 0; learns <= 6; learns++) {
                    Pen.law(x, Integer.toString(learns));
                    int gain = Math.min(learns, Math.min(memory, lines));
                    Pen.due("gains", gain, () -> x.gains(0, 0));
                    Pen.due("learn", gain > 0 ? 1 : 0, () -> Pen.work(x, "learn 0 0;"));
                    Pen.due("knows", gain, () -> x.knows(0, 0));
                    x.undo();
                }
            }
        }
    }

    // promise 31: "that of least NEED (what 0), of alike ones the first .. NONE both: there is none"
    private static void closest() {
        PaidByHeart x = Pen.of("poem 40 9;poem 10 0;poem 9 0;poem 8 0;man 99 20;man 99 20;"
            + "debt 0 0 0 0;debt 0 1 0 0;debt 1 3 0 0;debt 0 2 0 0;debt 0 3 0 0;");
        Pen.due("1 ahead of 2 and 41, the first", 3, () -> x.closest(0, 0));
        Pen.due("1", 1, () -> x.closest(0, 1));
        Pen.work(x, "learn 0 3;");
        Pen.due("0 ahead of 1", 4, () -> x.closest(0, 0));
        Pen.due("0", 0, () -> x.closest(0, 1));
        Pen.work(x, "say 4;learn 0 2;say 3;learn 0 1;learn 0 1;say 1;");
        Pen.due("41 is one, too", 0, () -> x.closest(0, 0));
        Pen.due("41", 41, () -> x.closest(0, 1));
        Pen.law(x, "20");
        Pen.work(x, "learn 0 0;learn 0 0;say 0;");
        Pen.due("there is none", -1, () -> x.closest(0, 0));
        Pen.due("nor its need", -1, () -> x.closest(0, 1));
        Pen.due("the other man's stays", 2, () -> x.closest(1, 0));
        Edges.argument("closest", 0, 1, what -> x.closest(0, what));
        Edges.element("closest man", 2, man -> x.closest(man, 0));
        Pen.noSuch("ahead of the rest", () -> x.closest(2, 2));
    }

    // promise 32: "of alike ones the first, how many (1); NONE both: nobody knows any"
    private static void best() {
        PaidByHeart x = Pen.of("poem 9 0;poem 9 0;man 9 20;man 18 20;man 18 20;");
        Edges.argument("best", 0, 1, what -> x.best(0, what));
        Edges.element("best poem", 2, poem -> x.best(poem, 0));
        Pen.noSuch("ahead of the rest", () -> x.best(2, 2));
        Pen.due("nobody", -1, () -> x.best(0, 0));
        Pen.due("nobody, how many", -1, () -> x.best(0, 1));
        Pen.law(x, "1");
        Pen.work(x, "learn 0 0;learn 2 1;");
        Pen.due("one line is enough, of the first man, too", 0, () -> x.best(0, 0));
        Pen.due("one", 1, () -> x.best(0, 1));
        Pen.due("of the other poem", 2, () -> x.best(1, 0));
        Pen.work(x, "learn 1 0;");
        Pen.due("alike: the first", 0, () -> x.best(0, 0));
        Pen.work(x, "learn 1 0;");
        Pen.due("2 ahead of 1", 1, () -> x.best(0, 0));
        Pen.due("two", 2, () -> x.best(0, 1));
        Pen.due("no men", -1, () -> Pen.of("poem 9 0;").best(0, 0));
    }

    // promise 33: "its L at the most"; "bits of no MEN"
    private static void chorus() {
        PaidByHeart x = Pen.of("poem 10 0;" + Pen.times(6, "man 9 20;"));
        Pen.law(x, "man+1");
        Pen.work(x, "learn 0 0;learn 1 0;learn 2 0;learn 3 0;learn 4 0;learn 5 0;");
        for (int set = 0; set < 64; set++) {
            int men = set;
            int sum = 0;
            for (int man = 0; man < 6; man++) sum += (set >> man & 1) * (man + 1);
            Pen.due("chorus of " + set, Math.min(sum, 10), () -> x.chorus(0, men));
        }
        Edges.argument("chorus men", 0, 63, men -> x.chorus(0, men));
        Edges.element("chorus poem", 1, poem -> x.chorus(poem, 63));
        Pen.illegal("bits of men and of none", () -> x.chorus(0, 65));
        Pen.noSuch("ahead of the rest", () -> x.chorus(1, 64));
        for (int men = 0; men <= 5; men++) {
            PaidByHeart y = Pen.of("poem 10 0;" + Pen.times(men, "man 9 20;"));
            Edges.argument("chorus of " + men, 0, (1 << men) - 1, bits -> y.chorus(0, bits));
        }
    }

    // "DRAW: the SEED (32 bits) becomes itself times 1,103,515,245, and 12,345 (it wraps); its bits 16 to 30"
    private static void seasonDraws() {
        PaidByHeart x = Pen.of(Pen.times(4, "poem 40 0;") + Pen.times(6, "man 99 20;"));
        Pen.law(x, "man+1");
        PaidByHeart y = Pen.of(lengths(7) + "man 99 20;man 99 20;");
        Pen.law(y, "20");
        PaidByHeart z = Pen.of("poem 1 0;man 99 20;" + Pen.times(10, "debt 0 0 0 40;"));
        int[] seeds = {0, 1, -1, 2, 12345, 65536, -65536, 1 << 30, Integer.MAX_VALUE, Integer.MIN_VALUE, 1103515245};
        for (int i = 0; i < 30; i++) {
            int from = i < seeds.length ? seeds[i] : i * 123456789;
            long[] draws = new long[4];
            BigInteger seed = BigInteger.valueOf(from);
            for (int j = 0; j < 4; j++) {
                seed = seed.multiply(BigInteger.valueOf(1103515245)).add(BigInteger.valueOf(12345));
                draws[j] = seed.mod(BigInteger.ONE.shiftLeft(31)).shiftRight(16).longValueExact();
            }
            Pen.due("man drawn by " + from, draws[0] % 6 + 1, () -> x.season(from, 0, 1, 1));
            Pen.due("poem drawn by " + from, draws[1] % 7 + 1, () -> y.season(from, 0, 1, 1));
            long said = draws[2] % 16;
            long debt = 1L << draws[3] % 10;
            if (said > 0) Pen.due("not said by " + from, 0, () -> z.season(from, (int) said, 1, 0));
            Pen.due("said by " + from, debt, () -> z.season(from, (int) said + 1, 1, 0));
        }
    }

    private static String lengths(int poems) {
        StringBuilder text = new StringBuilder();
        for (int i = 1; i <= poems; i++) text.append("poem ").append(i).append(" 9;");
        return text.toString();
    }

    // "Without MEN or POEMS nothing is DRAWN, WEEKS go by"; "(if it can be done)"
    private static void seasonOfNothing() {
        for (String valley : new String[] {"", "poem 9 0;", "man 9 20;"}) {
            PaidByHeart x = Pen.of(valley);
            for (int what = 0; what < 4; what++) {
                int asked = what;
                Pen.due("nothing in " + valley, 0, () -> x.season(7, 16, 48, asked));
            }
        }
        // one man and one poem: learn is refused from the second week on, say once its debt is paid
        PaidByHeart y = Pen.of("poem 5 0;man 9 20;debt 0 0 0 0;");
        Pen.due("one lesson", 1, () -> y.season(7, 16, 48, 3));
        Pen.due("paid once", 1, () -> y.season(7, 16, 48, 0));
        Pen.due("no slip", 0, () -> y.season(7, 16, 48, 2));
        Pen.due("nothing stays changed", 0, () -> y.told(8) + y.told(4) + y.told(3) + y.man(0, 4));
        // weeks go by beyond 400
        PaidByHeart z = Pen.of("poem 9 0;man 9 17;fade 0;");
        for (int i = 0; i < 3; i++) Pen.work(z, "again 39[week;week;week;week;week;];");
        Pen.work(z, "learn 0 0;");
        // 60 in week 430: all is gone at the end of week 429, and learnt again, 4 of half of 9
        Pen.due("week 429, 29 weeks on", 9, () -> z.season(7, 0, 29, 1));
        Pen.due("week 430", 0, () -> z.season(7, 0, 30, 1));
        Pen.due("week 431", 4, () -> z.season(7, 0, 31, 1));
    }

    // promise 34: "so many WEEKS (1 to 48), Q (0 to 16)"
    private static void seasonLimits() {
        PaidByHeart x = Pen.of("poem 12 5;man 30 20;debt 0 0 0 9;");
        Edges.argument("season q", 0, 16, q -> x.season(1, q, 1, 0));
        Edges.argument("season weeks", 1, 48, weeks -> x.season(1, 0, weeks, 0));
        Edges.argument("season what", 0, 3, what -> x.season(1, 0, 1, what));
        Pen.due("Q 0: none is said", 0, () -> x.season(9, 0, 48, 2));
        Pen.due("Q 16: one in each week", 48, () -> x.season(9, 16, 48, 2));
        Pen.due("one week", 1, () -> x.season(9, 16, 1, 2));
    }

    // promise 35: "so many SEEDS (1 to 10; seed, seed and 1, ..)"; "no such DEBT, also for 0, 1"
    private static void span() {
        PaidByHeart x = Pen.of("poem 30 3;poem 20 0;man 20 20;man 30 20;debt 0 0 0 9;debt 1 1 0 9;");
        for (int from : new int[] {Integer.MAX_VALUE, Integer.MAX_VALUE - 4, -3, 0, Integer.MIN_VALUE}) {
            int fewest = Integer.MAX_VALUE;
            int most = 0;
            int paid = 0;
            for (int many = 1; many <= 10; many++) {
                // seeds wrap as all numbers of 32 bits do
                int lines = x.season(from + many - 1, 5, 9, 1);
                fewest = Math.min(fewest, lines);
                most = Math.max(most, lines);
                paid += x.season(from + many - 1, 5, 9, 0) >> 1 & 1;
                int[] want = {fewest, most, paid};
                int seeds = many;
                for (int what = 0; what < 3; what++) {
                    int asked = what;
                    Pen.due("span of " + many + " from " + from, want[what], () -> x.span(from, seeds, 5, 9, asked, 1));
                }
            }
        }
        PaidByHeart y = Pen.of("poem 30 3;man 20 20;debt 0 0 0 9;debt 0 0 0 9;");
        Edges.argument("span many", 1, 10, many -> y.span(1, many, 0, 1, 0, 0));
        Edges.argument("span q", 0, 16, q -> y.span(1, 1, q, 1, 0, 0));
        Edges.argument("span weeks", 1, 48, weeks -> y.span(1, 1, 0, weeks, 0, 0));
        Edges.argument("span what", 0, 2, what -> y.span(1, 1, 0, 1, what, 0));
        for (int what = 0; what < 3; what++) {
            int asked = what;
            Edges.argument("span debt, what " + what, 0, 1, debt -> y.span(1, 1, 0, 1, asked, debt));
            Pen.illegal("no debts, what " + what, () -> Pen.of("poem 9 0;man 9 20;").span(1, 1, 0, 1, asked, 0));
        }
    }

    // "NoSuchElementException: no such POEM, MAN, DEBT (so below, ahead of others)"
    private static void elements() {
        PaidByHeart x = Pen.of(Pen.times(8, "poem 1 0;") + Pen.times(6, "man 1 10;") + Pen.times(10, "debt 0 0 0 0;"));
        Edges.element("poem", 8, n -> x.poem(n, 0));
        Edges.element("man", 6, n -> x.man(n, 0));
        Edges.element("debt", 10, n -> x.debt(n, 0));
        Edges.argument("poem what", 0, 3, what -> x.poem(7, what));
        Edges.argument("man what", 0, 8, what -> x.man(5, what));
        Edges.argument("debt what", 0, 6, what -> x.debt(9, what));
        Edges.argument("told what", 0, 11, what -> x.told(what));
        Edges.element("knows man", 6, n -> x.knows(n, 7));
        Edges.element("knows poem", 8, n -> x.knows(5, n));
        Edges.element("learns man", 6, n -> x.learns(n, 7));
        Edges.element("learns poem", 8, n -> x.learns(5, n));
        Edges.element("lessons man", 6, n -> x.lessons(n, 7));
        Edges.element("lessons poem", 8, n -> x.lessons(5, n));
        Edges.element("pays", 6, n -> x.pays(n));
        Edges.element("hardest", 6, n -> x.hardest(n));
        Edges.element("partners", 10, n -> x.partners(n));
        Edges.element("fades man", 6, n -> x.fades(n, 7));
        Edges.element("fades poem", 8, n -> x.fades(5, n));
        Edges.element("gains man", 6, n -> x.gains(n, 7));
        Edges.element("gains poem", 8, n -> x.gains(5, n));
        Edges.element("closest", 6, n -> x.closest(n, 0));
        Edges.element("best", 8, n -> x.best(n, 0));
        Edges.element("chorus", 8, n -> x.chorus(n, 0));
        Edges.element("candles", 6, n -> x.candles(n, 0, 0));
        Pen.noSuch("poem ahead of what", () -> x.poem(8, 4));
        Pen.noSuch("man ahead of what", () -> x.man(6, 9));
        Pen.noSuch("debt ahead of what", () -> x.debt(10, 7));
    }
}
