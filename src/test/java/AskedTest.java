/** Promises 15 to 21 and 25 to 33: what is asked, and changes nothing. */
public final class AskedTest {
    private static final String VALLEY = "poem 10 0;poem 6 5;poem 20 9;man 30 20;man 8 59;"
        + "debt 0 0 0 3;debt 0 1 1 5;debt 1 1 2 9;debt 0 2 3 2;fade 2;";

    public static void main(String[] args) {
        would();
        ahead();
        lessons();
        pays();
        hardest();
        fits();
        look();
        fullest();
        freeMen();
        partners();
        fades();
        next();
        gains();
        closest();
        best();
        chorus();
        wrongNumbers();
        fullValley();
        Pen.end();
    }

    private static void would() {
        PaidByHeart x = new PaidByHeart();
        Pen.law(x, "lines+hard+known+room+age+lessons+week+man-10");
        Pen.due("least of all", 1, () -> x.would(1, 0, 0, 0, 10, 0, 0, 0));
        Pen.due("most of all", 20, () -> x.would(40, 9, 40, 99, 150, 999, 400, 5));
        int[] least = {1, 0, 0, 0, 10, 0, 0, 0};
        int[] most = {40, 9, 40, 99, 150, 999, 400, 5};
        for (int i = 0; i < 8; i++) {
            for (int wrong : new int[] {least[i] - 1, most[i] + 1, Integer.MIN_VALUE, Integer.MAX_VALUE}) {
                int[] a = least.clone();
                a[i] = wrong;
                Pen.illegal("would, " + i + " of " + wrong, () -> x.would(a[0], a[1], a[2], a[3], a[4], a[5], a[6], a[7]));
            }
        }
        Pen.due("each is counted once", 32, () -> x.status(1));
    }

    private static void ahead() {
        PaidByHeart x = Pen.of("poem 10 4;poem 5 0;man 30 20;man 9 59;debt 0 0 0 1;debt 1 1 0 3;fade 2;");
        Pen.law(x, "9");
        Pen.work(x, "learn 0 0;learn 1 1;");
        int[] lines = {14, 14, 12, 10, 8, 6, 5, 5, 5, 5, 0, 0};
        int[] late = {0, 0, 1, 1, 3, 3, 3, 3, 3, 3, 3, 3};
        int[] old = {0, 0, 0, 0, 0, 0, 0, 0, 0, 0, 2, 2};
        for (int i = 0; i < lines.length; i++) {
            int n = i;
            Pen.due("lines in " + i, lines[i], () -> x.ahead(n, 0));
            Pen.due("late in " + i, late[i], () -> x.ahead(n, 1));
            Pen.due("old in " + i, old[i], () -> x.ahead(n, 2));
        }
        Pen.due("in 99", 3, () -> x.ahead(99, 1));
        Pen.due("nothing stays changed", 14, () -> x.told(8));
        Pen.due("nor the week", 0, () -> x.told(3));
        Pen.due("nor what is fresh", 1, () -> x.man(0, 8));
        Pen.illegal("ahead(-1, 0)", () -> x.ahead(-1, 0));
        Pen.illegal("ahead(100, 0)", () -> x.ahead(100, 0));
        Pen.illegal("ahead(0, 3)", () -> x.ahead(0, 3));
        Pen.illegal("ahead(0, -1)", () -> x.ahead(0, -1));
    }

    private static void lessons() {
        PaidByHeart x = Pen.of("poem 40 0;poem 10 9;poem 10 0;man 40 20;man 5 20;man 40 59;fade 1;");
        Pen.law(x, "1");
        Pen.due("40 by 1 each", 40, () -> x.lessons(0, 0));
        Pen.due("nothing is kept", 0, () -> x.knows(0, 0));
        Pen.work(x, "learn 0 0;");
        Pen.due("39 more", 39, () -> x.lessons(0, 0));
        Pen.due("hard ones stay fresh", 10, () -> x.lessons(0, 1));
        Pen.due("no room", -1, () -> x.lessons(1, 2));
        Pen.law(x, "5");
        Pen.due("by 5", 2, () -> x.lessons(0, 1));
        Pen.work(x, "learn 0 1;learn 0 1;");
        Pen.due("all is known", 0, () -> x.lessons(0, 1));
        // a refused lesson goes by as one: nothing in weeks 0 and 1, then 5 and 5
        Pen.law(x, "least[week/2,1]*5");
        Pen.due("refused ones count", 4, () -> x.lessons(0, 2));
        // nothing is learnt in odd weeks, and all fades then
        PaidByHeart y = Pen.of("poem 10 9;man 40 20;fade 1;");
        Pen.law(y, "(1-week%2)*5");
        Pen.due("it fades between", -1, () -> y.lessons(0, 0));
        // who becomes old begins anew: 9 by week 9, then half of 40 is enough for 10
        PaidByHeart z = Pen.of("poem 10 0;man 20 59;");
        Pen.law(z, "1-(week%10)/9");
        // weeks 0 to 8 give 9 lines, week 9 none, all gone in week 10: again 9, none in 19, and one in 20
        Pen.due("growing old", 21, () -> z.lessons(0, 0));
        PaidByHeart w = Pen.of("poem 40 0;man 99 20;");
        Pen.law(w, "least[1,week]");
        Pen.due("39 lines in 40", -1, () -> w.lessons(0, 0));
        // lessons had count in the law
        Pen.law(w, "lessons+1");
        Pen.due("1 + 2 + .. + 9 are 45", 9, () -> w.lessons(0, 0));
    }

    private static void pays() {
        PaidByHeart x = Pen.of(VALLEY);
        Pen.due("two of three", 3, () -> x.pays(0));
        Pen.due("one", 4, () -> x.pays(1));
        Pen.work(x, "week;");
        Pen.due("a week later", 3, () -> x.pays(0));
        Pen.work(x, "week;");
        // 2 needs in the 1 week of debt 0 can't be; 2 in 3 weeks can
        Pen.due("two weeks later", 2, () -> x.pays(0));
        // memory: one poem's lines count once
        PaidByHeart y = Pen.of("poem 10 0;poem 5 0;man 10 20;debt 0 0 0 40;debt 0 0 1 40;debt 0 1 0 40;");
        Pen.due("one poem once", 3, () -> y.pays(0));
        // of as many that of most lines of each debt; 6 + 6 against 10
        PaidByHeart z = Pen.of("poem 6 0;poem 10 0;poem 6 0;man 11 20;debt 0 0 0 40;debt 0 1 0 40;debt 0 2 0 40;");
        Pen.due("most lines", 2, () -> z.pays(0));
        PaidByHeart w = Pen.of("poem 6 0;poem 6 0;man 11 20;debt 0 1 0 40;debt 0 0 0 40;");
        Pen.due("least bits", 1, () -> w.pays(0));
        // needs one behind the other by due, of alike ones by number: 2 by 2, 2 more by 4
        PaidByHeart v = Pen.of("poem 10 0;poem 11 0;poem 12 0;man 99 20;debt 0 0 0 4;debt 0 1 0 2;debt 0 2 0 4;");
        Pen.due("by due", 6, () -> v.pays(0));
        Pen.law(v, "20");
        Pen.due("by 1 each", 7, () -> v.pays(0));
        Pen.work(v, "learn 0 1;say 1;");
        Pen.due("paid ones are no more", 5, () -> v.pays(0));
        Pen.work(v, "again 5[week;];");
        Pen.due("too late", 0, () -> v.pays(0));
        // known, but late: a need of 0 ends too late, too
        PaidByHeart u = Pen.of("poem 5 0;man 9 59;debt 0 0 0 1;debt 0 0 0 40;fade 0;");
        Pen.work(u, "learn 0 0;week;");
        Pen.due("0 by 0", 3, () -> u.pays(0));
        Pen.work(u, "week;");
        Pen.due("0 by less", 2, () -> u.pays(0));
        Pen.work(u, "again 8[week;];");
        Pen.due("old, memory 4", 0, () -> u.pays(0));
        // told by falling dues: 2 by 2, 4 by 4, 6 by 6
        PaidByHeart r = Pen.of("poem 10 0;poem 11 0;poem 12 0;man 99 20;debt 0 0 0 6;debt 0 1 0 4;debt 0 2 0 2;");
        Pen.due("falling dues", 7, () -> r.pays(0));
        Pen.work(r, "week;");
        // 2 by 3, and 2 more by 5
        Pen.due("falling dues, a week later", 3, () -> r.pays(0));
        PaidByHeart q = Pen.of("poem 10 0;poem 11 0;man 99 20;man 9 20;debt 0 0 0 4;debt 1 0 0 9;debt 0 1 0 2;");
        Pen.due("not the other man's", 5, () -> q.pays(0));
        PaidByHeart t = Pen.of("poem 5 0;man 9 20;");
        Pen.due("no debts", 0, () -> t.pays(0));
        PaidByHeart s = Pen.of("poem 1 0;man 9 20;" + Pen.times(10, "debt 0 0 0 1;"));
        Pen.law(s, "1");
        Pen.due("each needs its own lesson", 1, () -> s.pays(0));
        Pen.work(s, "learn 0 0;");
        Pen.due("none needs one", 1023, () -> s.pays(0));
    }

    private static void hardest() {
        PaidByHeart x = Pen.of(VALLEY);
        Pen.due("one that can't be learnt", 2, () -> x.hardest(0));
        Pen.due("the first of those", 0, () -> x.hardest(1));
        PaidByHeart y = Pen.of("poem 5 0;poem 12 0;poem 15 0;man 90 20;");
        Pen.due("the first of two by 2", 1, () -> y.hardest(0));
        PaidByHeart z = Pen.of("man 90 20;");
        Pen.due("no poems", -1, () -> z.hardest(0));
        PaidByHeart w = Pen.of("poem 40 8;poem 40 9;man 90 20;");
        Pen.due("none above 40", 1, () -> w.hardest(0));
    }

    private static void fits() {
        PaidByHeart x = Pen.of(VALLEY);
        Pen.due("no lines, all pairs", 6, () -> x.fits(0));
        Pen.due("the first", 0, () -> x.fits(1));
        Pen.book(x, "0 0 0;");
        Pen.due("all but that", 5, () -> x.fits(0));
        Pen.due("the first of them", 1, () -> x.fits(1));
        Pen.book(x, "1 0 8;");
        Pen.due("that one", 1, () -> x.fits(0));
        Pen.due("it is", 10, () -> x.fits(1));
        Pen.book(x, "1 0 9;");
        Pen.due("no more than room", 0, () -> x.fits(0));
        Pen.due("none", -1, () -> x.fits(1));
        Pen.book(x, "0 1 4;1 1 4;");
        Pen.due("two lessons", 0, () -> x.fits(0));
        Pen.book(x, "0 2 0;0 2 0;");
        Pen.due("a refused lesson is nothing", 6, () -> x.fits(0));
        Pen.book(x, "0 2 0;0 2 1;");
        Pen.due("two unlike lines", 0, () -> x.fits(0));
        PaidByHeart y = Pen.of("poem 5 0;");
        Pen.due("no men", 0, () -> y.fits(0));
        Pen.due("no first", -1, () -> y.fits(1));
        Pen.illegal("fits(2)", () -> x.fits(2));
        Pen.illegal("fits(-1)", () -> x.fits(-1));
    }

    private static void look() {
        PaidByHeart x = Pen.of(VALLEY);
        Pen.due("without lines", 0, () -> x.look(0));
        Pen.due("five at the worst", 5, () -> x.look(1));
        Pen.book(x, "0 0 0;");
        Pen.due("not what is in lines", 1, () -> x.look(0));
        Pen.due("four at the worst", 4, () -> x.look(1));
        Pen.book(x, "0 0 0;0 1 0;");
        Pen.due("0 2 parts nothing", 10, () -> x.look(0));
        Pen.due("three at the worst", 3, () -> x.look(1));
        Pen.book(x, "0 0 9;");
        Pen.due("one fits: the first not in lines", 1, () -> x.look(0));
        Pen.due("it is left", 1, () -> x.look(1));
        Pen.book(x, "0 0 1;");
        Pen.due("none fits", 1, () -> x.look(0));
        Pen.due("none is left", 0, () -> x.look(1));
        Pen.book(x, "0 0 0;0 1 0;0 2 0;1 0 0;1 1 0;1 2 0;");
        Pen.due("all in lines", -1, () -> x.look(0));
        Pen.due("all in lines, left", -1, () -> x.look(1));
        PaidByHeart y = Pen.of("man 5 20;");
        Pen.due("no pairs", -1, () -> y.look(0));
        Pen.due("no pairs, left", -1, () -> y.look(1));
        // two pairs: each parts itself from the other one
        PaidByHeart z = Pen.of("poem 5 9;poem 5 0;poem 5 0;man 9 20;");
        Pen.book(z, "0 0 0;");
        Pen.due("the second parts", 1, () -> z.look(0));
        Pen.due("two of three are left", 2, () -> z.look(1));
        // one pair alone: whatever he knows, it is left
        PaidByHeart w = Pen.of("poem 5 0;man 9 20;");
        Pen.due("one pair", 0, () -> w.look(0));
        Pen.due("is left", 1, () -> w.look(1));
        // a lesson of one line parts, too
        PaidByHeart v = Pen.of("poem 5 9;poem 5 8;poem 5 9;man 9 20;");
        Pen.due("the one of one line", 1, () -> v.look(0));
        Pen.due("two are left", 2, () -> v.look(1));
        Pen.illegal("look(2)", () -> z.look(2));
        Pen.illegal("look(-1)", () -> z.look(-1));
    }

    private static void fullest() {
        PaidByHeart x = Pen.of("poem 10 0;poem 10 0;man 30 20;man 30 20;man 30 20;");
        Pen.due("alike: the first", 0, () -> x.fullest(0));
        Pen.due("of none", 0, () -> x.fullest(1));
        Pen.work(x, "learn 0 0;learn 1 0;learn 1 1;learn 2 0;learn 2 1;");
        Pen.due("the first of two", 1, () -> x.fullest(0));
        Pen.due("of 18", 18, () -> x.fullest(1));
        PaidByHeart y = new PaidByHeart();
        Pen.due("no men", -1, () -> y.fullest(0));
        Pen.due("no men, lines", -1, () -> y.fullest(1));
        Pen.illegal("fullest(2)", () -> y.fullest(2));
        Pen.illegal("fullest(-1)", () -> y.fullest(-1));
    }

    private static void freeMen() {
        PaidByHeart x = Pen.of("poem 5 0;man 9 20;man 9 20;man 9 20;debt 0 0 0 9;debt 0 0 0 9;debt 2 0 0 9;");
        Pen.due("who has none", 2, () -> x.free());
        Pen.work(x, "learn 0 0;say 0;");
        Pen.due("one of two is paid", 2, () -> x.free());
        Pen.work(x, "say 1;");
        Pen.due("both", 3, () -> x.free());
        Pen.due("no men", 0, () -> new PaidByHeart().free());
    }

    private static void partners() {
        PaidByHeart x = Pen.of("poem 12 0;man 30 20;man 3 20;man 2 20;man 30 20;debt 0 0 0 9;debt 1 0 0 9;");
        Pen.work(x, "learn 0 0;learn 1 0;learn 2 0;learn 3 0;");
        Pen.due("9 and 3, 9 and 9", 10, () -> x.partners(0));
        Pen.due("3 and 9, 3 and 9", 9, () -> x.partners(1));
        Pen.work(x, "duet 0 1;");
        Pen.due("paid", 0, () -> x.partners(0));
        Pen.work(x, "learn 0 0;");
        Pen.due("never himself", 9, () -> x.partners(1));
        Pen.noSuch("partners(2)", () -> x.partners(2));
        Pen.noSuch("partners(-1)", () -> x.partners(-1));
    }

    private static void fades() {
        PaidByHeart x = Pen.of("poem 10 9;poem 10 1;poem 1 9;man 40 20;man 40 59;fade 2;");
        Pen.law(x, "9");
        Pen.work(x, "learn 0 0;learn 0 1;learn 0 2;learn 1 0;");
        Pen.due("fresh", 0, () -> x.fades(0, 0));
        Pen.work(x, "week;");
        Pen.due("hard", 4, () -> x.fades(0, 0));
        Pen.due("not hard", 0, () -> x.fades(0, 1));
        Pen.due("no more than he knows", 1, () -> x.fades(0, 2));
        Pen.due("none known", 0, () -> x.fades(1, 1));
        Pen.work(x, "again 8[week;];learn 0 0;learn 1 0;learn 1 1;");
        Pen.due("old by it, though fresh", 9, () -> x.fades(1, 0));
        Pen.due("old by it, of each poem", 9, () -> x.fades(1, 1));
        Pen.due("the other one not", 0, () -> x.fades(0, 0));
        Pen.due("the week stays", 9, () -> x.told(3));
    }

    private static void next() {
        PaidByHeart x = Pen.of("poem 5 0;man 9 20;debt 0 0 0 9;debt 0 0 0 7;debt 0 0 0 7;debt 0 0 0 40;");
        Pen.due("the first by due", 1, () -> x.next(0));
        Pen.due("its week", 7, () -> x.next(1));
        Pen.work(x, "learn 0 0;say 1;");
        Pen.due("then the alike one", 2, () -> x.next(0));
        Pen.work(x, "say 2;");
        Pen.due("then", 0, () -> x.next(0));
        Pen.due("in", 9, () -> x.next(1));
        Pen.work(x, "say 0;say 3;");
        Pen.due("there is none", -1, () -> x.next(0));
        Pen.due("nor its week", -1, () -> x.next(1));
        Pen.illegal("next(2)", () -> x.next(2));
        Pen.illegal("next(-1)", () -> x.next(-1));
    }

    private static void gains() {
        PaidByHeart x = Pen.of("poem 10 0;poem 20 5;man 12 20;man 3 20;");
        Pen.due("by law", 9, () -> x.gains(0, 0));
        Pen.due("by room", 3, () -> x.gains(1, 0));
        Pen.work(x, "learn 0 0;");
        Pen.due("by lines", 1, () -> x.gains(0, 0));
        Pen.due("by room that is left", 3, () -> x.gains(0, 1));
        Pen.work(x, "learn 0 0;");
        Pen.due("all is known", 0, () -> x.gains(0, 0));
        Pen.due("nothing stays changed", 10, () -> x.knows(0, 0));
        Pen.law(x, "0");
        Pen.due("none by law", 0, () -> x.gains(1, 1));
    }

    private static void closest() {
        PaidByHeart x = Pen.of(VALLEY);
        Pen.due("the first of two", 0, () -> x.closest(0, 0));
        Pen.due("need", 2, () -> x.closest(0, 1));
        Pen.work(x, "learn 0 1;");
        Pen.due("then that", 1, () -> x.closest(0, 0));
        Pen.due("by one", 1, () -> x.closest(0, 1));
        Pen.work(x, "say 1;");
        Pen.due("paid ones not", 0, () -> x.closest(0, 0));
        Pen.work(x, "learn 0 0;learn 0 0;");
        Pen.due("known ones too", 0, () -> x.closest(0, 1));
        Pen.work(x, "say 0;");
        Pen.due("what can't be learnt", 3, () -> x.closest(0, 0));
        Pen.due("by 41", 41, () -> x.closest(0, 1));
        Pen.due("of the other one", 2, () -> x.closest(1, 0));
        PaidByHeart y = Pen.of("man 9 20;");
        Pen.due("none", -1, () -> y.closest(0, 0));
        Pen.due("none, need", -1, () -> y.closest(0, 1));
        Pen.illegal("closest(0, 2)", () -> y.closest(0, 2));
        Pen.noSuch("closest(1, 2)", () -> y.closest(1, 2));
    }

    private static void best() {
        PaidByHeart x = Pen.of("poem 10 0;poem 10 0;man 3 20;man 30 20;man 30 20;");
        Pen.due("nobody", -1, () -> x.best(0, 0));
        Pen.due("nobody, lines", -1, () -> x.best(0, 1));
        Pen.work(x, "learn 0 0;learn 1 0;learn 2 0;");
        Pen.due("the first of two", 1, () -> x.best(0, 0));
        Pen.due("nine", 9, () -> x.best(0, 1));
        Pen.due("of the other poem nobody", -1, () -> x.best(1, 1));
        Pen.law(x, "1");
        Pen.work(x, "learn 2 1;");
        Pen.due("one line is enough", 2, () -> x.best(1, 0));
        Pen.due("one", 1, () -> x.best(1, 1));
        Pen.illegal("best(0, 2)", () -> x.best(0, 2));
        Pen.noSuch("best(2, 2)", () -> x.best(2, 2));
    }

    private static void chorus() {
        PaidByHeart x = Pen.of("poem 20 0;poem 10 0;man 3 20;man 30 20;man 30 20;");
        Pen.work(x, "learn 0 0;learn 1 0;learn 2 0;learn 1 1;");
        Pen.due("nobody", 0, () -> x.chorus(0, 0));
        Pen.due("one", 9, () -> x.chorus(0, 2));
        Pen.due("two", 12, () -> x.chorus(0, 3));
        Pen.due("L at the most", 20, () -> x.chorus(0, 7));
        Pen.due("of the other poem", 9, () -> x.chorus(1, 7));
        Pen.illegal("chorus(0, 8)", () -> x.chorus(0, 8));
        Pen.illegal("chorus(0, -1)", () -> x.chorus(0, -1));
        Pen.noSuch("chorus(2, 8)", () -> x.chorus(2, 8));
        PaidByHeart y = Pen.of("poem 20 0;");
        Pen.due("no men", 0, () -> y.chorus(0, 0));
        Pen.illegal("bits of no men", () -> y.chorus(0, 1));
    }

    private static void wrongNumbers() {
        PaidByHeart x = Pen.of("poem 20 0;man 3 20;");
        for (int n : new int[] {-1, 1, Integer.MIN_VALUE, Integer.MAX_VALUE}) {
            Pen.noSuch("lessons man " + n, () -> x.lessons(n, 0));
            Pen.noSuch("lessons poem " + n, () -> x.lessons(0, n));
            Pen.noSuch("pays " + n, () -> x.pays(n));
            Pen.noSuch("hardest " + n, () -> x.hardest(n));
            Pen.noSuch("fades man " + n, () -> x.fades(n, 0));
            Pen.noSuch("fades poem " + n, () -> x.fades(0, n));
            Pen.noSuch("gains man " + n, () -> x.gains(n, 0));
            Pen.noSuch("gains poem " + n, () -> x.gains(0, n));
            Pen.noSuch("closest " + n, () -> x.closest(n, 0));
            Pen.noSuch("best " + n, () -> x.best(n, 0));
        }
    }

    /** As many poems, men and debts as there may be: each is reached, and none beyond. */
    private static void fullValley() {
        PaidByHeart x = Pen.of(Pen.times(8, "poem 2 9;") + Pen.times(6, "man 99 50;") + Pen.times(10, "debt 5 7 2 40;"));
        Pen.law(x, "2");
        for (int poem = 0; poem < 8; poem++) Pen.work(x, "learn 5 " + poem + ";");
        Pen.due("fits", 48, () -> x.fits(0));
        Pen.due("lines", 16, () -> x.told(8));
        Pen.due("fullest", 5, () -> x.fullest(0));
        Pen.due("fullest, lines", 16, () -> x.fullest(1));
        Pen.due("who knows the last poem", 32, () -> x.poem(7, 2));
        Pen.due("debts by the last poem", 1023, () -> x.poem(7, 3));
        Pen.due("debts of the last man", 1023, () -> x.man(5, 7));
        Pen.due("all fresh", 255, () -> x.man(5, 8));
        Pen.due("best", 5, () -> x.best(7, 0));
        Pen.due("chorus", 2, () -> x.chorus(7, 63));
        Pen.due("partners", 31, () -> x.partners(9));
        Pen.due("free", 31, () -> x.free());
        Pen.due("pays", 1023, () -> x.pays(5));
        Pen.due("pays nothing", 0, () -> x.pays(0));
        Pen.due("hardest", 0, () -> x.hardest(5));
        Pen.due("look", 0, () -> x.look(0));
        Pen.due("look, left", 47, () -> x.look(1));
        Pen.due("candles", 9, () -> x.candles(5, 63, 9));
        Pen.due("late", 1023, () -> x.ahead(41, 1));
        Pen.due("none is late", 0, () -> x.ahead(40, 1));
        Pen.due("all fade", 0, () -> x.ahead(2, 0));
        Pen.due("nobody is old", 0, () -> x.ahead(99, 2));
        Pen.due("lessons", 1, () -> x.lessons(4, 7));
        Pen.due("closest", 0, () -> x.closest(5, 0));
        Pen.due("paid", 1 << 9, () -> Pen.work(x, "say 9;") * x.told(4));
        Pen.due("next", 0, () -> x.next(0));
        Pen.due("what is paid stays so in a season", 512, () -> x.season(3, 16, 48, 0) & 512);
        Pen.due("a span", 10, () -> x.span(3, 10, 16, 48, 2, 9));
        Pen.noSuch("no seventh man", () -> x.knows(6, 0));
        Pen.noSuch("no ninth poem", () -> x.knows(0, 8));
        Pen.noSuch("no eleventh debt", () -> x.debt(10, 0));
    }
}
