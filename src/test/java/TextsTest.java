/** Promises 1 to 7: a new object, the tape, the four texts, and their faults. */
public final class TextsTest {
    private static final String SMALL = "poem 10 0;poem 6 5;man 30 20;man 8 59;debt 0 0 0 3;";

    public static void main(String[] args) {
        newObject();
        feed();
        valley();
        valleyFaults();
        law();
        lawFaults();
        work();
        workFaults();
        workIsFull();
        book();
        fault();
        words();
        bytesBehindTheText();
        Pen.end();
    }

    private static void newObject() {
        PaidByHeart x = new PaidByHeart();
        for (int what = 0; what <= 10; what++) {
            int asked = what;
            Pen.due("new: told(" + what + ")", 0, () -> x.told(asked));
        }
        Pen.due("new: told(11)", 3, () -> x.told(11));
        Pen.due("new: fault()", -1, () -> x.fault());
        Pen.due("new: count(0)", 0, () -> x.count(0));
        Pen.due("new: count(1)", 0, () -> x.count(1));
        Pen.due("new: count(2)", 0, () -> x.count(2));
        Pen.due("new: status(0)", 0, () -> x.status(0));
        Pen.due("new: status(1)", 0, () -> x.status(1));
        Pen.due("new: would by 9 - hard", 5, () -> x.would(1, 4, 0, 0, 10, 0, 0, 0));
        Pen.due("NONE", -1, () -> PaidByHeart.NONE);
    }

    private static void feed() {
        PaidByHeart x = new PaidByHeart();
        for (int i = 1; i <= 30; i++) {
            int bytes = 20 * i;
            Pen.due("feed " + i, bytes, () -> x.feed(1, 2, 3, 4, 5));
        }
        Pen.due("feed beyond 600", -1, () -> x.feed(1, 2, 3, 4, 5));
        Pen.due("count(1) behind it", 600, () -> x.count(1));
        // the highest byte first: "fade" is 0x66616465
        PaidByHeart y = new PaidByHeart();
        Pen.due("feed fade 7;", 20, () -> y.feed(0x66616465, 0x20373b20, 0x20202020, 0x20202020, 0x20202020));
        Pen.due("valley of it", 0, () -> y.valley(20));
        Pen.due("its fade", 7, () -> y.told(11));
        // bytes above 127 are no letters, no digits, no blanks
        Pen.due("feed high bytes", 20, () -> y.feed(0xa0a0a0a0, -1, -1, -1, -1));
        Pen.due("valley of those", -9, () -> y.valley(4));
    }

    private static void valley() {
        PaidByHeart x = new PaidByHeart();
        Pen.due("valley, how many debts", 1, () -> Pen.valley(x, SMALL));
        Pen.due("tape is empty then", 0, () -> x.count(1));
        Pen.feed(x, "poem 1 0;poem 2 0;");
        Pen.illegal("valley(-1)", () -> x.valley(-1));
        Pen.illegal("valley(21), of 20", () -> x.valley(21));
        Pen.due("the tape stays", 20, () -> x.count(1));
        Pen.due("valley stays", 2, () -> x.told(1));
        Pen.due("valley(9), the first bytes alone", 0, () -> x.valley(9));
        Pen.due("one poem", 1, () -> x.told(0));
        Pen.due("the rest is gone", 0, () -> x.count(1));
        String[] fine = {"", "   ", "  poem  10   0  ;  man 5 10 ; ", "poem10 0;", "poem 040 0009;",
            "poem 1 0;poem 40 9;man 1 10;man 99 70;debt 0 0 0 0;debt 1 1 3 40;fade 0;fade 9;",
            Pen.times(60, "fade 1;"), Pen.times(8, "poem 1 0;") + Pen.times(6, "man 1 10;") + Pen.times(10, "debt 5 7 3 40;")};
        int[] debts = {0, 0, 0, 0, 0, 2, 0, 10};
        for (int i = 0; i < fine.length; i++) {
            String text = fine[i];
            Pen.due("valley " + text, debts[i], () -> Pen.valley(x, text));
            Pen.due("no fault", -1, () -> x.fault());
        }
        Pen.valley(x, "fade 4;fade 2;fade 6;");
        Pen.due("the last fade counts", 6, () -> x.told(11));
        Pen.valley(x, "fade;");
        Pen.due("a faulty one leaves the valley", 6, () -> x.told(11));
        Pen.valley(x, "");
        Pen.due("fade without", 3, () -> x.told(11));
        valleyMakesAllNew();
    }

    private static void valleyMakesAllNew() {
        PaidByHeart x = Pen.of(SMALL);
        Pen.law(x, "3");
        Pen.book(x, "0 0 1;");
        Pen.work(x, "learn 0 0;say 0;say 0;forget 0 1;week;");
        x.image();
        Pen.due("law is 3", 3, () -> x.learns(0, 0));
        Pen.due("refused", 1, () -> x.told(10));
        Pen.valley(x, SMALL + "x");
        Pen.due("faulty: law stays", 3, () -> x.learns(0, 0));
        Pen.due("faulty: book stays", 1, () -> x.told(9));
        Pen.due("faulty: images stay", 1, () -> x.count(0));
        Pen.due("faulty: works stay", 1, () -> x.count(2));
        Pen.due("faulty: week stays", 1, () -> x.told(3));
        Pen.due("faulty: refused stays", 1, () -> x.told(10));
        Pen.illegal("an argument refused", () -> x.told(99));
        Pen.valley(x, SMALL);
        Pen.due("no law", 9, () -> x.learns(0, 0));
        Pen.due("no book", 0, () -> x.told(9));
        Pen.due("no images", 0, () -> x.count(0));
        Pen.due("no works", 0, () -> x.count(2));
        Pen.due("week 0", 0, () -> x.told(3));
        Pen.due("nothing refused", 0, () -> x.told(10));
        Pen.due("nobody slipped", 0, () -> x.told(7));
        Pen.due("nobody knows a line", 0, () -> x.told(8));
        Pen.due("no lesson", 0, () -> x.man(0, 4));
        Pen.due("status stays", 1, () -> x.status(1));
        Pen.work(x, "learn 0 0;learn 1 1;say 0;");
        Pen.valley(x, SMALL);
        for (int man = 0; man < 2; man++) {
            for (int what = 3; what < 9; what++) {
                int who = man;
                int asked = what;
                Pen.due("all is new of " + man, what == 7 ? 1 - man : 0, () -> x.man(who, asked));
            }
        }
        Pen.due("none is paid", 0, () -> x.told(4));
        // what an earlier valley told is not there any more
        Pen.valley(x, "man 9 20;");
        Pen.due("no poems, no lessons", 0, () -> x.season(1, 16, 9, 3));
        Pen.valley(x, "poem 5 0;");
        Pen.due("no men, no lessons", 0, () -> x.season(1, 16, 9, 3));
    }

    private static void valleyFaults() {
        refuses("valley", "poem 0 0;", 2, 5);
        refuses("valley", "poem 41 0;", 2, 5);
        refuses("valley", "poem 1 10;", 2, 7);
        refuses("valley", "man 0 10;", 2, 4);
        refuses("valley", "man 100 10;", 2, 4);
        refuses("valley", "man 1 9;", 2, 6);
        refuses("valley", "man 1 71;", 2, 6);
        refuses("valley", "fade 10;", 2, 5);
        refuses("valley", "poem 99999999999999999999 0;", 2, 5);
        refuses("valley", "poem 4294967297 0;", 2, 5);
        refuses("valley", "debt 0 0 0 0;", 2, 5);
        refuses("valley", "man 1 10;debt 0 0 0 0;poem 1 0;", 2, 16);
        refuses("valley", "poem 1 0;debt 0 0 0 0;man 1 10;", 2, 14);
        refuses("valley", "poem 1 0;man 1 10;debt 1 0 0 0;", 2, 23);
        refuses("valley", "poem 1 0;man 1 10;debt 0 1 0 0;", 2, 25);
        refuses("valley", "poem 1 0;man 1 10;debt 0 0 4 0;", 2, 27);
        refuses("valley", "poem 1 0;man 1 10;debt 0 0 0 41;", 2, 29);
        refuses("valley", "poem", 1, 4);
        refuses("valley", "poem 1", 1, 6);
        refuses("valley", "poem 1 0", 1, 8);
        refuses("valley", "poem 1 0   ", 1, 11);
        refuses("valley", "poem 1 0 poem 1 0;", 1, 9);
        refuses("valley", "poem 1 0 0;", 1, 9);
        refuses("valley", "poem a 0;", 1, 5);
        refuses("valley", "poem 1 -1;", 1, 7);
        refuses("valley", "poem 1a 0;", 1, 6);
        refuses("valley", ";", 1, 0);
        refuses("valley", "poem 1 0;;", 1, 9);
        refuses("valley", "Poem 1 0;", 1, 0);
        refuses("valley", "  poems 1 0;", 1, 2);
        refuses("valley", "poemman 1 0;", 1, 0);
        refuses("valley", "5;", 1, 0);
        refuses("valley", Pen.times(9, "poem 1 0;"), 3, 72);
        refuses("valley", Pen.times(8, "poem 1 0;") + " poem", 3, 73);
        refuses("valley", Pen.times(7, "man 1 10;"), 3, 54);
        refuses("valley", "poem 1 0;man 1 10;" + Pen.times(11, "debt 0 0 0 0;"), 3, 148);
        refuses("valley", Pen.times(60, "fade 1;") + "fade 1;", 3, 420);
        refuses("valley", Pen.times(60, "fade 1;") + "fade x;", 3, 420);
        // of faults at one place the least
        refuses("valley", Pen.times(60, "fade 1;") + "fades 1;", 1, 420);
        refuses("valley", Pen.times(60, "fade 1;") + "7", 1, 420);
        // the first from the left
        refuses("valley", "poem 99 99;bad", 2, 5);
    }

    private static void law() {
        Object[][] laws = {
            {"7", 7}, {" 7 ", 7}, {"007", 7}, {"999", 20}, {"0-5", 0}, {"21", 20}, {"20", 20},
            {"2+3*4", 14}, {"(2+3)*4", 20}, {"20-5-4", 11}, {"20-(5-4)", 19}, {"16/4/2", 2}, {"17%10%4", 3},
            {"2*7/4", 3}, {"7/4*2", 2}, {"(0-7)/2+10", 7}, {"(0-7)%4+10", 7}, {"7%(0-4)+10", 13},
            {"5/0", 0}, {"5%0", 0}, {"5/0+6", 6}, {"5+7%0", 5},
            {"least[3,8]", 3}, {"most[3,8]", 8}, {"least [ most[1 , 4] , 9 ]", 4},
            {"((((((5))))))", 5}, {"least[least[least[least[least[least[6,7],7],7],7],7],7]", 6},
            {"lines", 1}, {"hard", 2}, {"known", 3}, {"room", 4}, {"age-5", 5},
            {"lessons", 6}, {"week", 7}, {"man", 5}, {"(1)+(2)+(3)+(4)+(5)+(1)+(1)+(1)", 18},
            // -1,303,958,299 by wrapping, and -2,147,483,648, which no sign turns
            {"(0-999*999*999*3)/(500*500*400)", 13}, {"(512*512*512*16)/(0-1)%7+10", 8},
            {"(512*512*512*16)%(0-1)+3", 3}};
        PaidByHeart x = new PaidByHeart();
        for (Object[] law : laws) {
            String text = (String) law[0];
            Pen.due("law " + text, 1, () -> Pen.law(x, text));
            Pen.due("by law " + text, (Integer) law[1], () -> x.would(1, 2, 3, 4, 10, 6, 7, 5));
        }
        Pen.law(x, "4");
        Pen.law(x, "4+");
        Pen.due("a faulty one leaves the law", 4, () -> x.would(1, 0, 0, 0, 10, 0, 0, 0));
        Pen.feed(x, Pen.times(160, " "));
        Pen.illegal("law(151)", () -> x.law(151));
        Pen.illegal("law(-1)", () -> x.law(-1));
        Pen.due("the tape stays", 160, () -> x.count(1));
        Pen.due("law(150)", -9, () -> x.law(150));
        Pen.due("at the length", 150, () -> x.fault());
        String longest = "1" + Pen.times(74, "+0") + " ";
        Pen.due("law of 150", 1, () -> Pen.law(x, longest));
        Pen.due("by it", 1, () -> x.would(1, 0, 0, 0, 10, 0, 0, 0));
    }

    private static void lawFaults() {
        refuses("law", "", 1, 0);
        refuses("law", "   ", 1, 3);
        refuses("law", "1000", 2, 0);
        refuses("law", "5+99999999999", 2, 2);
        refuses("law", "-5", 1, 0);
        refuses("law", "5 5", 1, 2);
        refuses("law", "5;", 1, 1);
        refuses("law", "hard5", 1, 4);
        refuses("law", "5hard", 1, 1);
        refuses("law", "harder", 1, 0);
        refuses("law", "lesson", 1, 0);
        refuses("law", "5+", 1, 2);
        refuses("law", "5+ ", 1, 3);
        refuses("law", "5++5", 1, 2);
        refuses("law", "()", 1, 1);
        refuses("law", "(5", 1, 2);
        refuses("law", "5)", 1, 1);
        refuses("law", "(5]", 1, 2);
        refuses("law", "least", 1, 5);
        refuses("law", "least(5,6)", 1, 5);
        refuses("law", "least[5]", 1, 7);
        refuses("law", "least[5,", 1, 8);
        refuses("law", "most[5,6)", 1, 8);
        refuses("law", "most[5,6,7]", 1, 8);
        refuses("law", "(((((((1)))))))", 3, 6);
        refuses("law", "((((((least[1,2]))))))", 3, 6);
        refuses("law", "(((((( most", 3, 7);
        refuses("law", "least[1,(((((( 1))))))]", 3, 13);
        refuses("law", "most[((((((1))))))", 3, 10);
        refuses("law", "((((((lease))))))", 1, 6);
        // what was closed is open no more
        PaidByHeart x = new PaidByHeart();
        Pen.due("closed ones", 1, () -> Pen.law(x, "((((((1))))))+((((((1))))))+least[(1),(1)]"));
    }

    private static void work() {
        PaidByHeart x = Pen.of(SMALL);
        Pen.due("no step", 0, () -> Pen.work(x, ""));
        Pen.due("blanks", 0, () -> Pen.work(x, "   "));
        Pen.due("a work none the less", 2, () -> x.count(2));
        Pen.due("two steps", 2, () -> Pen.work(x, " learn 0 0 ; week ; "));
        Pen.due("glued", 2, () -> Pen.work(x, "learn0 0;week;"));
        Pen.due("a refused one is not counted", 1, () -> Pen.work(x, "week;forget 1 1;"));
        Pen.due("it is told", 1, () -> x.told(10));
        Pen.due("again 0", 0, () -> Pen.work(x, "again 0[week;];"));
        Pen.due("empty again", 0, () -> Pen.work(x, "again 40[];"));
        Pen.due("again 3", 3, () -> Pen.work(x, "again 3 [ week ; ] ;"));
        Pen.due("again in again", 12, () -> Pen.work(x, "again 2[again 3[week;week;];];"));
        Pen.due("week by now", 18, () -> x.told(3));
        limitOfSteps();
        Pen.feed(x, Pen.times(160, " "));
        Pen.illegal("work(151)", () -> x.work(151));
        Pen.illegal("work(-1)", () -> x.work(-1));
        Pen.due("the tape stays", 160, () -> x.count(1));
        Pen.due("work(150)", 0, () -> x.work(150));
        PaidByHeart y = Pen.of(SMALL);
        Pen.due("30 steps", 30, () -> Pen.work(y, Pen.times(30, "week;")));
    }

    private static void limitOfSteps() {
        PaidByHeart x = Pen.of(SMALL);
        // the outer one, four rounds of 1 + 40, and 1 + 34 of the fifth
        Pen.due("200 are begun", 194, () -> Pen.work(x, "again 40[again 40[week;];];"));
        Pen.due("weeks", 194, () -> x.told(3));
        PaidByHeart y = Pen.of(SMALL);
        // 1 + 160, 1 + 36, and two weeks of three
        Pen.due("refused ones count", 2, () -> Pen.work(y, "again 40[" + Pen.times(4, "forget 0 0;")
            + "];again 36[forget 0 0;];week;week;week;"));
        Pen.due("and are told", 196, () -> y.told(10));
        PaidByHeart z = Pen.of(SMALL);
        // 1 + 160, 1, 1 + 36, 1, and no step more
        Pen.due("agains count", 196, () -> Pen.work(z, "again 40[" + Pen.times(4, "week;")
            + "];again 0[week;];again 36[week;];again 3[];week;"));
        Pen.due("what comes behind is not refused", 0, () -> z.told(10));
        PaidByHeart v = Pen.of(SMALL);
        Pen.due("six open at a time", 64, () -> Pen.work(v, Pen.times(6, "again 2[") + "week;" + Pen.times(6, "];")));
        // six open at a time, 40 to the sixth rounds: ends, for all that
        PaidByHeart w = Pen.of(SMALL);
        Pen.due("empty rounds", 0, () -> Pen.work(w, "again 40[again 40[again 40[again 40[again 40[again 40[];];];];];];"));
        Pen.due("none refused", 0, () -> w.told(10));
    }

    private static void workFaults() {
        refuses("work", "learn 2 0;", 2, 6);
        refuses("work", "learn 0 2;", 2, 8);
        refuses("work", "forget 2 0;", 2, 7);
        refuses("work", "forget 0 2;", 2, 9);
        refuses("work", "say 1;", 2, 4);
        refuses("work", "duet 1 0;", 2, 5);
        refuses("work", "duet 0 2;", 2, 7);
        refuses("work", "again 41[];", 2, 6);
        refuses("work", "again [];", 1, 6);
        refuses("work", "again 4;", 1, 7);
        refuses("work", "again 4[week];", 1, 12);
        refuses("work", "again 4[week;]", 1, 14);
        refuses("work", "again 4[week;", 1, 13);
        refuses("work", "week;]", 1, 5);
        refuses("work", "weeks;", 1, 0);
        refuses("work", "week", 1, 4);
        refuses("work", "week week;", 1, 5);
        refuses("work", "say;", 1, 3);
        refuses("work", "learn 0;", 1, 7);
        refuses("work", "week;;", 1, 5);
        refuses("work", "Week;", 1, 0);
        refuses("work", Pen.times(7, "again 1["), 3, 48);
        refuses("work", Pen.times(6, "again1[") + "  again", 3, 44);
        refuses("work", Pen.times(6, "again1[") + "agains", 1, 42);
        refuses("work", Pen.times(6, "again1[") + Pen.times(6, "];") + "x", 1, 54);
        PaidByHeart x = Pen.of(SMALL);
        Pen.work(x, "week;say 0;forget 0 0;");
        Pen.work(x, "week;week;bad;");
        Pen.due("a faulty one does nothing", 1, () -> x.told(3));
        Pen.due("nor is it a work", 1, () -> x.count(2));
        Pen.due("told(10) stays", 1, () -> x.told(10));
    }

    private static void workIsFull() {
        PaidByHeart x = Pen.of(SMALL);
        for (int i = 0; i < 15; i++) Pen.work(x, "week;");
        Pen.work(x, "week;say 0;forget 0 0;");
        Pen.due("16 works", 16, () -> x.count(2));
        Pen.work(x, "bad");
        Pen.due("a fault is not looked at", -1, () -> x.fault());
        Pen.due("-20", -20, () -> Pen.work(x, "bad"));
        Pen.due("tape is empty", 0, () -> x.count(1));
        Pen.due("no fault", -1, () -> x.fault());
        Pen.due("told(10) stays", 1, () -> x.told(10));
        Pen.illegal("the exception comes ahead", () -> x.work(1));
        Pen.law(x, "+");
        Pen.due("a fault of the law", 0, () -> x.fault());
        Pen.due("-20 again", -20, () -> Pen.work(x, "week;"));
        Pen.due("no fault then", -1, () -> x.fault());
        Pen.due("nothing done", 16, () -> x.told(3));
        Pen.due("undo", 15, () -> x.undo());
        Pen.due("work again", 1, () -> Pen.work(x, "week;"));
    }

    private static void book() {
        PaidByHeart x = Pen.of(SMALL);
        Pen.due("no line", 0, () -> Pen.book(x, ""));
        Pen.due("two lines", 2, () -> Pen.book(x, " 0 0 99 ; 1 1 0;"));
        Pen.due("told", 2, () -> x.told(9));
        Pen.due("six lines", 6, () -> Pen.book(x, Pen.times(6, "1 1 00;")));
        Pen.due("a faulty one", -7, () -> Pen.book(x, Pen.times(7, "1 1 0;")));
        Pen.due("leaves the book", 6, () -> x.told(9));
        Pen.due("an empty one does not", 0, () -> Pen.book(x, "  "));
        Pen.due("no book then", 0, () -> x.told(9));
        Pen.feed(x, Pen.times(80, " "));
        Pen.illegal("book(61)", () -> x.book(61));
        Pen.illegal("book(-1)", () -> x.book(-1));
        Pen.due("the tape stays", 80, () -> x.count(1));
        Pen.due("book(60)", 0, () -> x.book(60));
        Pen.due("the tape is empty", 0, () -> x.count(1));
        refuses("book", "2 0 0;", 2, 0);
        refuses("book", "0 2 0;", 2, 2);
        refuses("book", "0 0 100;", 2, 4);
        refuses("book", "0 0;", 1, 3);
        refuses("book", "0 0 0", 1, 5);
        refuses("book", "a", 1, 0);
        refuses("book", "0 0 0;;", 1, 6);
        refuses("book", Pen.times(6, "0 0 1;") + " 0", 3, 37);
        refuses("book", Pen.times(6, "0 0 1;") + "0 9 9;", 3, 36);
        refuses("book", Pen.times(6, "0 0 1;") + "2 0 0;", 2, 36);
        refuses("book", Pen.times(6, "0 0 1;") + "x", 1, 36);
    }

    private static void fault() {
        PaidByHeart x = Pen.of(SMALL);
        Pen.law(x, "1+bad");
        Pen.due("place", 2, () -> x.fault());
        Pen.illegal("law(1)", () -> x.law(1));
        Pen.due("an exception is no text", 2, () -> x.fault());
        x.undo();
        x.image();
        Pen.feed(x, "0 0 5;");
        Pen.due("nor is another call", 2, () -> x.fault());
        x.book(6);
        Pen.due("the latest text counts", -1, () -> x.fault());
    }

    /** A word is all letters that stand there, and each of them counts. */
    private static void words() {
        for (String word : new String[] {"poem", "man", "debt", "fade"}) {
            spoilt("valley", word, " 0 0 0 0;");
        }
        for (String word : new String[] {"learn", "forget", "say", "duet", "week", "again"}) {
            spoilt("work", word, " 0 0;");
        }
        for (String word : new String[] {"lines", "hard", "known", "room", "age", "lessons", "week", "man", "least", "most"}) {
            spoilt("law", word, "");
        }
    }

    private static void spoilt(String sort, String word, String rest) {
        refuses(sort, word + "z" + rest, 1, 0);
        refuses(sort, word + "a" + rest, 1, 0);
        refuses(sort, "a" + word + rest, 1, 0);
        refuses(sort, "z" + word.substring(1) + rest, 1, 0);
        refuses(sort, word.substring(0, word.length() - 1) + "z" + rest, 1, 0);
        refuses(sort, word.substring(0, word.length() - 1) + rest, 1, 0);
        refuses(sort, word.toUpperCase() + rest, 1, 0);
    }

    /** The first n bytes are the text, whatever lies behind them. */
    private static void bytesBehindTheText() {
        String valley = "poem 12 3;man 10 20;debt 0 0 1 10;fade 1;";
        String law = "least[12,lines]+(hard*2)/week";
        String work = "again 10[week;learn 0 0;];say 0;duet 0 1;";
        String book = "0 0 10; 1 1 12;";
        for (int i = 0; i <= valley.length(); i++) {
            int n = i;
            PaidByHeart whole = Pen.of(SMALL);
            PaidByHeart part = Pen.of(SMALL);
            PaidByHeart other = Pen.of(SMALL);
            Pen.feed(whole, valley);
            // what lies behind would go on well, or is of another text
            Pen.feed(other, valley.substring(0, n) + "0;" + valley);
            int want = Pen.valley(part, valley.substring(0, n));
            Pen.due("valley to " + n, want, () -> whole.valley(n));
            Pen.due("valley to " + n + ", other bytes", want, () -> other.valley(n));
            Pen.due("place, to " + n, part.fault(), () -> whole.fault());
            Pen.due("place, to " + n + ", other bytes", part.fault(), () -> other.fault());
            Pen.due("fade, to " + n, part.told(11), () -> whole.told(11));
        }
        for (int i = 0; i <= law.length(); i++) {
            PaidByHeart x = Pen.of(SMALL);
            int n = i;
            int want = Pen.law(x, law.substring(0, n));
            int place = x.fault();
            Pen.feed(x, law + "1)]");
            Pen.due("law to " + n, want, () -> x.law(n));
            Pen.due("place, law to " + n, place, () -> x.fault());
        }
        for (int i = 0; i <= work.length(); i++) {
            PaidByHeart x = Pen.of(SMALL);
            int n = i;
            int want = Pen.work(x, work.substring(0, n));
            int place = x.fault();
            x.undo();
            Pen.feed(x, work + ";];");
            Pen.due("work to " + n, want, () -> x.work(n));
            Pen.due("place, work to " + n, place, () -> x.fault());
            x.undo();
        }
        for (int i = 0; i <= book.length(); i++) {
            PaidByHeart x = Pen.of(SMALL);
            int n = i;
            int want = Pen.book(x, book.substring(0, n));
            int place = x.fault();
            Pen.feed(x, book + ";0");
            Pen.due("book to " + n, want, () -> x.book(n));
            Pen.due("place, book to " + n, place, () -> x.fault());
        }
        PaidByHeart x = Pen.of(SMALL);
        Pen.feed(x, "12 34 5");
        Pen.due("law of 1", 1, () -> x.law(1));
        Pen.due("is 1", 1, () -> x.would(1, 0, 0, 0, 10, 0, 0, 0));
        Pen.feed(x, "fade 4;7;");
        x.valley(6);
        Pen.due("its ; lies behind", 6, () -> x.fault());
        Pen.feed(x, "poem 1 0;");
        x.valley(3);
        Pen.due("its last letter lies behind", 0, () -> x.fault());
    }

    /** A text refused on an object with the small valley: by which fault, and where. */
    private static void refuses(String sort, String text, int kind, int place) {
        PaidByHeart x = Pen.of(SMALL);
        Pen.due(sort + " " + text, kind - 10, () -> {
            switch (sort) {
                case "valley": return Pen.valley(x, text);
                case "law": return Pen.law(x, text);
                case "work": return Pen.work(x, text);
                default: return Pen.book(x, text);
            }
        });
        Pen.due("place in " + text, place, () -> x.fault());
        Pen.due("the tape is empty behind " + text, 0, () -> x.count(1));
        Pen.due("valley behind " + text, 2, () -> x.told(1));
    }
}
