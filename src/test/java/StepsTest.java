/** Promises 5 and 9 to 14: what steps do, what is told of poems, men and debts. */
public final class StepsTest {
    public static void main(String[] args) {
        told();
        learning();
        forgetting();
        saying();
        duets();
        kinds();
        weeks();
        growingOld();
        lastWeek();
        late();
        needs();
        learnsByLaw();
        wrongNumbers();
        Pen.end();
    }

    private static void told() {
        PaidByHeart x = Pen.of("poem 10 0;poem 6 5;poem 20 9;man 30 20;man 8 59;"
            + "debt 0 0 0 3;debt 0 1 1 5;debt 1 1 2 9;debt 0 2 3 2;fade 2;");
        row("told", new int[] {3, 2, 4, 0, 0, 0, 0, 0, 0, 0, 0, 2}, what -> x.told(what));
        row("poem 0", new int[] {10, 0, 0, 1}, what -> x.poem(0, what));
        row("poem 1", new int[] {6, 5, 0, 6}, what -> x.poem(1, what));
        row("poem 2", new int[] {20, 9, 0, 8}, what -> x.poem(2, what));
        row("man 0", new int[] {30, 20, 30, 0, 0, 0, 0, 11, 0}, what -> x.man(0, what));
        row("man 1", new int[] {8, 59, 8, 0, 0, 0, 0, 4, 0}, what -> x.man(1, what));
        row("debt 0", new int[] {0, 0, 0, 3, 0, 0, 2}, what -> x.debt(0, what));
        row("debt 1", new int[] {0, 1, 1, 5, 0, 0, 2}, what -> x.debt(1, what));
        row("debt 2", new int[] {1, 1, 2, 9, 0, 0, 2}, what -> x.debt(2, what));
        row("debt 3", new int[] {0, 2, 3, 2, 0, 0, 41}, what -> x.debt(3, what));
        Pen.work(x, "learn 0 0;learn 0 0;learn 1 1;learn 1 2;say 0;duet 2 0;");
        row("told", new int[] {3, 2, 4, 0, 1, 0, 0, 2, 10, 0, 1, 2}, what -> x.told(what));
        row("poem 0", new int[] {10, 0, 1, 0}, what -> x.poem(0, what));
        row("poem 1", new int[] {6, 5, 0, 6}, what -> x.poem(1, what));
        row("man 0", new int[] {30, 20, 20, 10, 2, 2, 1, 10, 1}, what -> x.man(0, what));
        row("man 1", new int[] {8, 59, 8, 0, 1, 1, 1, 4, 2}, what -> x.man(1, what));
        row("debt 0", new int[] {0, 0, 0, 3, 1, 1, 0}, what -> x.debt(0, what));
    }

    private static void learning() {
        PaidByHeart x = Pen.of("poem 10 2;poem 40 0;man 12 20;");
        Pen.due("learn", 1, () -> Pen.work(x, "learn 0 0;"));
        Pen.due("by 9 - hard", 7, () -> x.knows(0, 0));
        Pen.due("learn to the end", 1, () -> Pen.work(x, "learn 0 0;"));
        Pen.due("L at the most", 10, () -> x.knows(0, 0));
        Pen.due("learn what is known", 0, () -> Pen.work(x, "learn 0 0;"));
        Pen.due("is refused", 1, () -> x.told(10));
        Pen.due("and is no lesson", 2, () -> x.man(0, 4));
        Pen.due("room", 2, () -> x.man(0, 2));
        Pen.due("learn into little room", 1, () -> Pen.work(x, "learn 0 1;"));
        Pen.due("as many as there is room for", 2, () -> x.knows(0, 1));
        Pen.due("both fresh", 3, () -> x.man(0, 8));
        Pen.due("learn without room", 0, () -> Pen.work(x, "learn 0 1;"));
        Pen.due("lessons", 3, () -> x.man(0, 4));
        Pen.due("lessons this week", 3, () -> x.man(0, 5));
        Pen.work(x, "week;");
        Pen.due("lessons stay", 3, () -> x.man(0, 4));
        Pen.due("those of the week do not", 0, () -> x.man(0, 5));
        Pen.due("nothing is fresh", 0, () -> x.man(0, 8));
    }

    private static void forgetting() {
        PaidByHeart x = Pen.of("poem 10 6;man 30 20;fade 2;");
        Pen.due("forget nothing", 0, () -> Pen.work(x, "forget 0 0;"));
        Pen.due("is refused", 1, () -> x.told(10));
        Pen.due("forget", 3, () -> Pen.work(x, "learn 0 0;learn 0 0;forget 0 0;"));
        Pen.due("knows none", 0, () -> x.knows(0, 0));
        Pen.due("fresh it stays", 1, () -> x.man(0, 8));
        Pen.due("lessons stay", 2, () -> x.man(0, 5));
    }

    private static void saying() {
        PaidByHeart x = Pen.of("poem 10 2;man 30 20;debt 0 0 0 9;");
        Pen.due("say unknown", 1, () -> Pen.work(x, "say 0;"));
        Pen.due("slips", 1, () -> x.man(0, 6));
        Pen.due("none below 0", 0, () -> x.knows(0, 0));
        Pen.due("learn, say", 2, () -> Pen.work(x, "learn 0 0;say 0;"));
        Pen.due("4 less", 3, () -> x.knows(0, 0));
        Pen.due("slipped", 2, () -> x.told(7));
        Pen.due("not paid", 0, () -> x.told(4));
        Pen.due("learn all, say", 2, () -> Pen.work(x, "learn 0 0;say 0;"));
        Pen.due("paid", 1, () -> x.told(4));
        Pen.due("lines stay", 10, () -> x.knows(0, 0));
        Pen.due("say again", 0, () -> Pen.work(x, "say 0;"));
        Pen.due("is refused", 1, () -> x.told(10));
        Pen.due("no slip by that", 2, () -> x.told(7));
    }

    private static void duets() {
        PaidByHeart x = Pen.of("poem 12 2;man 30 20;man 6 20;debt 0 0 2 9;debt 1 0 0 9;");
        Pen.due("both know too few", 2, () -> Pen.work(x, "learn 0 0;duet 0 1;"));
        Pen.due("the one slips", 3, () -> x.knows(0, 0));
        Pen.due("the other one, too", 1, () -> x.man(1, 6));
        Pen.due("twice", 2, () -> x.told(7));
        Pen.due("with himself", 0, () -> Pen.work(x, "duet 0 0;"));
        Pen.due("is refused", 1, () -> x.told(10));
        Pen.due("5 less than 12 are missing", 2, () -> Pen.work(x, "learn 1 0;learn 0 0;"));
        Pen.due("16 together", 16, () -> x.told(8));
        Pen.work(x, "week;");
        Pen.due("kind 2 asks no lesson here", 1, () -> Pen.work(x, "duet 0 1;"));
        Pen.due("paid", 1, () -> x.told(4));
        Pen.due("paid ones are refused", 0, () -> Pen.work(x, "duet 0 1;"));
        Pen.due("no slip more", 2, () -> x.told(7));
        // 4 + 8 are just 12
        PaidByHeart y = Pen.of("poem 12 0;man 4 20;man 8 20;debt 0 0 0 9;debt 1 0 0 9;");
        Pen.work(y, "learn 0 0;learn 1 0;duet 1 0;");
        Pen.due("just enough", 2, () -> y.told(4));
    }

    private static void kinds() {
        // 7 lines: 4 are from the middle on; a lesson gives 3
        PaidByHeart x = Pen.of("poem 7 6;poem 1 6;man 30 20;debt 0 0 0 9;debt 0 0 1 9;debt 0 0 2 9;debt 0 0 3 9;"
            + "debt 0 1 1 9;fade 0;");
        Pen.work(x, "learn 0 0;");
        wells(x, 0, 0, 0, 0, 0);
        Pen.law(x, "1");
        Pen.work(x, "learn 0 0;");
        wells(x, 0, 1, 0, 1, 0);
        Pen.law(x, "9");
        Pen.work(x, "learn 0 0;");
        wells(x, 1, 1, 1, 1, 0);
        Pen.work(x, "week;");
        wells(x, 1, 1, 0, 1, 0);
        Pen.work(x, "learn 0 1;");
        // any poem's lesson will do; half of 1 and 1 more is 1
        wells(x, 1, 1, 1, 1, 1);
        Pen.work(x, "say 2;say 4;");
        Pen.due("both paid", 20, () -> x.told(4));
        wells(x, 1, 1, 1, 1, 1);
        // 2 lines: half and 1 more are 2; 8 lines: 5
        PaidByHeart y = Pen.of("poem 2 0;poem 8 0;man 30 20;debt 0 0 1 9;debt 0 1 1 9;");
        Pen.law(y, "1");
        Pen.work(y, "learn 0 0;again 4[learn 0 1;];");
        Pen.due("1 of 2", 0, () -> y.debt(0, 5));
        Pen.due("4 of 8", 0, () -> y.debt(1, 5));
        Pen.work(y, "learn 0 0;learn 0 1;");
        Pen.due("2 of 2", 1, () -> y.debt(0, 5));
        Pen.due("5 of 8", 1, () -> y.debt(1, 5));
        for (int lines = 1; lines <= 40; lines++) {
            PaidByHeart z = Pen.of("poem " + lines + " 0;man 99 20;debt 0 0 1 9;debt 0 0 3 9;");
            Pen.law(z, "1");
            int needed = 0;
            for (int i = 0; i < 3 && z.debt(0, 5) == 0; i++) {
                Pen.work(z, "again " + (i == 0 ? lines / 2 : 1) + "[learn 0 0;];");
                needed = z.knows(0, 0);
            }
            int just = needed;
            Pen.due("from the middle on, of " + lines, Math.min(lines, lines / 2 + 1), () -> just);
            Pen.due("a lullaby, too, of " + lines, 1, () -> z.debt(1, 5));
        }
        // each man's lessons are his own
        PaidByHeart w = Pen.of("poem 3 0;man 9 20;man 9 20;man 9 20;debt 1 0 2 9;debt 2 0 2 9;fade 0;");
        Pen.work(w, "learn 0 0;learn 1 0;learn 2 0;week;");
        Pen.due("no lesson of the second", 0, () -> w.debt(0, 5) + w.man(1, 5) + w.man(2, 5));
        Pen.work(w, "forget 1 0;learn 1 0;");
        Pen.due("one of the second", 1, () -> w.debt(0, 5));
        Pen.due("none of the third", 0, () -> w.debt(1, 5));
    }

    private static void wells(PaidByHeart x, int... wells) {
        for (int i = 0; i < wells.length; i++) {
            int debt = i;
            Pen.due("debt(" + i + ", 5)", wells[i], () -> x.debt(debt, 5));
        }
    }

    private static void weeks() {
        // fade 4: hard 3 none, hard 4 one, hard 9 two
        PaidByHeart x = Pen.of("poem 10 3;poem 10 4;poem 10 9;man 40 20;man 40 20;fade 4;");
        Pen.law(x, "5");
        Pen.work(x, "learn 0 0;learn 0 1;learn 0 2;learn 1 2;week;");
        Pen.due("fresh ones stay", 20, () -> x.told(8));
        Pen.work(x, "learn 0 2;week;");
        Pen.due("hard 3", 5, () -> x.knows(0, 0));
        Pen.due("hard 4", 4, () -> x.knows(0, 1));
        Pen.due("hard 9, fresh", 10, () -> x.knows(0, 2));
        Pen.due("hard 9, not fresh for the other one", 3, () -> x.knows(1, 2));
        Pen.work(x, "week;week;");
        Pen.due("0 at least", 0, () -> x.knows(1, 2));
        Pen.due("hard 4 still", 2, () -> x.knows(0, 1));
        PaidByHeart y = Pen.of("poem 10 9;man 40 20;fade 0;");
        Pen.law(y, "5");
        Pen.work(y, "learn 0 0;again 5[week;];");
        Pen.due("by 0 none less", 5, () -> y.knows(0, 0));
        PaidByHeart z = Pen.of("poem 10 9;man 40 20;");
        Pen.law(z, "5");
        Pen.work(z, "learn 0 0;week;week;");
        Pen.due("by 3 without", 2, () -> z.knows(0, 0));
        Pen.due("week", 2, () -> z.told(3));
    }

    private static void growingOld() {
        PaidByHeart x = Pen.of("poem 20 0;man 15 59;man 15 58;man 15 60;man 15 70;fade 0;");
        Pen.work(x, "learn 0 0;learn 1 0;learn 2 0;learn 3 0;again 9[week;];");
        Pen.due("age in week 9", 59, () -> x.man(0, 1));
        Pen.due("nobody is old", 0, () -> x.told(6));
        Pen.due("all is known", 36, () -> x.told(8));
        Pen.work(x, "learn 0 0;week;");
        Pen.due("age in week 10", 60, () -> x.man(0, 1));
        Pen.due("one is old", 1, () -> x.told(6));
        Pen.due("he knows nothing", 0, () -> x.man(0, 3));
        Pen.due("his memory as told", 15, () -> x.man(0, 0));
        Pen.due("room by half of it", 7, () -> x.man(0, 2));
        Pen.due("told of 60: 61", 61, () -> x.man(2, 1));
        Pen.due("all others know", 27, () -> x.told(8));
        Pen.work(x, "learn 0 0;");
        Pen.due("no more than half", 7, () -> x.knows(0, 0));
        Pen.work(x, "again 10[week;];");
        Pen.due("old he stays", 3, () -> x.told(6));
        Pen.due("what he learnt then stays", 7, () -> x.knows(0, 0));
        Pen.due("the second knows nothing", 0, () -> x.knows(1, 0));
        Pen.due("age", 61, () -> x.man(0, 1));
        Pen.due("70 and 2", 72, () -> x.man(3, 1));
        PaidByHeart y = Pen.of("man 1 59;");
        Pen.work(y, "again 10[week;];");
        Pen.due("half of 1", 0, () -> y.man(0, 2));
    }

    private static void lastWeek() {
        PaidByHeart x = Pen.of("poem 5 9;man 9 19;debt 0 0 0 0;fade 0;");
        String weeks = "again 40[week;week;week;week;];again 37[week;];";
        Pen.due("197 weeks", 197, () -> Pen.work(x, weeks));
        Pen.due("197 more", 197, () -> Pen.work(x, weeks));
        Pen.due("six are left", 6, () -> Pen.work(x, "again 9[week;];"));
        Pen.due("three are refused", 3, () -> x.told(10));
        Pen.due("week 400", 400, () -> x.told(3));
        Pen.due("age", 59, () -> x.man(0, 1));
        Pen.law(x, "5");
        Pen.due("a lesson can be had", 1, () -> Pen.work(x, "learn 0 0;"));
        Pen.due("asked, weeks go on: 409", 0, () -> x.ahead(9, 2));
        Pen.due("asked, weeks go on: 410", 1, () -> x.ahead(10, 2));
        Pen.due("and he knows nothing then", 0, () -> x.ahead(10, 0));
        Pen.due("week 400 is still", 400, () -> x.told(3));
        Pen.law(x, "week-400");
        Pen.work(x, "forget 0 0;");
        // 0 lines, then 1, 2 and 2 of 5
        Pen.due("lessons asked beyond it", 4, () -> x.lessons(0, 0));
    }

    private static void late() {
        PaidByHeart x = Pen.of("poem 5 0;man 9 10;debt 0 0 0 0;debt 0 0 0 1;debt 0 0 0 2;");
        Pen.due("week 0", 0, () -> x.told(5));
        Pen.work(x, "week;");
        Pen.due("week 1", 1, () -> x.told(5));
        Pen.work(x, "week;learn 0 0;say 0;");
        Pen.due("week 2, 0 is paid late", 2, () -> x.told(5));
    }

    private static void needs() {
        PaidByHeart x = Pen.of("poem 10 0;poem 9 9;man 30 20;debt 0 0 0 3;debt 0 1 0 3;");
        int[] needs = {10, 5, 4, 3, 2, 2, 2, 2, 2, 1, 1};
        for (int i = 0; i < needs.length; i++) {
            Pen.law(x, Integer.toString(i + 1));
            Pen.due("10 by " + (i + 1), needs[i], () -> x.debt(0, 6));
        }
        Pen.law(x, "0");
        Pen.due("by none", 41, () -> x.debt(0, 6));
        Pen.law(x, "10");
        Pen.work(x, "learn 0 0;");
        Pen.law(x, "0");
        Pen.due("all is known", 0, () -> x.debt(0, 6));
        Pen.due("of the other one none", 41, () -> x.debt(1, 6));
        Pen.work(x, "say 0;forget 0 0;");
        Pen.due("paid", 0, () -> x.debt(0, 6));
        // need asks nothing of room
        PaidByHeart y = Pen.of("poem 10 0;man 1 20;debt 0 0 0 3;");
        Pen.due("whatever the room", 2, () -> y.debt(0, 6));
    }

    private static void learnsByLaw() {
        PaidByHeart x = Pen.of("poem 10 4;poem 20 7;man 11 39;man 19 50;fade 0;");
        String[] laws = {"lines", "hard", "known", "room", "age/10", "lessons", "week", "man"};
        // man 1, who had 2 lessons of the first poem and 1 of the other one, in week 12
        Pen.law(x, "4");
        Pen.work(x, "learn 1 0;learn 1 0;learn 1 1;again 12[week;];");
        int[] first = {10, 4, 8, 7, 5, 3, 12, 1};
        int[] second = {20, 7, 4, 7, 5, 3, 12, 1};
        for (int i = 0; i < laws.length; i++) {
            Pen.law(x, laws[i]);
            Pen.due("learns(1, 0) by " + laws[i], first[i], () -> x.learns(1, 0));
            Pen.due("learns(1, 1) by " + laws[i], second[i], () -> x.learns(1, 1));
        }
        Pen.law(x, "age");
        Pen.due("20 at the most", 20, () -> x.learns(0, 0));
        Pen.law(x, "age-40");
        Pen.due("age by now", 0, () -> x.learns(0, 0));
        Pen.law(x, "age-39");
        Pen.due("one more by now", 1, () -> x.learns(0, 0));
        Pen.law(x, "hard-9");
        Pen.due("0 at least", 0, () -> x.learns(0, 0));
    }

    private static void wrongNumbers() {
        PaidByHeart x = Pen.of("poem 10 0;poem 6 5;man 30 20;debt 0 0 0 3;");
        int[] wrong = {-1, 99, Integer.MIN_VALUE, Integer.MAX_VALUE};
        for (int n : wrong) {
            Pen.illegal("told " + n, () -> x.told(n));
            Pen.illegal("poem what " + n, () -> x.poem(0, n));
            Pen.illegal("man what " + n, () -> x.man(0, n));
            Pen.illegal("debt what " + n, () -> x.debt(0, n));
            Pen.noSuch("poem " + n, () -> x.poem(n, n));
            Pen.noSuch("man " + n, () -> x.man(n, n));
            Pen.noSuch("debt " + n, () -> x.debt(n, n));
            Pen.noSuch("knows man " + n, () -> x.knows(n, 0));
            Pen.noSuch("knows poem " + n, () -> x.knows(0, n));
            Pen.noSuch("learns man " + n, () -> x.learns(n, 0));
            Pen.noSuch("learns poem " + n, () -> x.learns(0, n));
        }
        Pen.illegal("told(12)", () -> x.told(12));
        Pen.illegal("poem(1, 4)", () -> x.poem(1, 4));
        Pen.illegal("man(0, 9)", () -> x.man(0, 9));
        Pen.illegal("debt(0, 7)", () -> x.debt(0, 7));
        Pen.noSuch("poem(2, 0)", () -> x.poem(2, 0));
        Pen.noSuch("man(1, 0)", () -> x.man(1, 0));
        Pen.noSuch("debt(1, 0)", () -> x.debt(1, 0));
        Pen.due("knows(0, 1)", 0, () -> x.knows(0, 1));
    }

    interface Row {
        int at(int what);
    }

    private static void row(String name, int[] wants, Row row) {
        for (int i = 0; i < wants.length; i++) {
            int what = i;
            Pen.due(name + ", " + i, wants[i], () -> row.at(what));
        }
        Pen.illegal(name + ", " + wants.length, () -> row.at(wants.length));
    }
}
