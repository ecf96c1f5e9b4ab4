/** Each sentence of the document on what goes on that names an edge, both its sides: ==== 2., promises 8 to 14, 36 to 39. */
public final class EdgeLifeTest {
    private static final String WEEKS_195 = "again 39[week;week;week;week;week;];";

    public static void main(String[] args) {
        weekZero();
        room();
        wellByKind();
        wellByLessonsOfTheWeek();
        steps200();
        learnWithinRoom();
        learnWithinLines();
        learnNoLineMore();
        forget();
        say();
        slipFourLines();
        duet();
        weekFades();
        weekFresh();
        weekRefused();
        tenthWeek();
        sixtyThen();
        oldStays();
        late();
        undo16();
        told();
        twoMenTwoDebts();
        images3();
        imagesOfFullWorks();
        refusalsOfEachCall();
        counts();
        Pen.end();
    }

    // "It is WEEK 0 at first, nobody knows a line, had a lesson, slipped; no DEBT is PAID; nobody is OLD"
    private static void weekZero() {
        PaidByHeart x = Pen.of("poem 10 3;man 1 70;man 9 60;man 9 59;debt 0 0 0 0;");
        int[] told = {1, 3, 1, 0, 0, 0, 0, 0, 0, 0, 0, 3};
        for (int i = 0; i < 12; i++) {
            int what = i;
            Pen.due("told(" + i + ") at first", told[i], () -> x.told(what));
        }
        for (int i = 0; i < 3; i++) {
            int man = i;
            Pen.due("knows", 0, () -> x.knows(man, 0));
            Pen.due("lessons", 0, () -> x.man(man, 4));
            Pen.due("slips", 0, () -> x.man(man, 6));
        }
    }

    // "ROOM of a MAN: his MEMORY, half of it (cut), if he is OLD, less all lines he knows .. together; 0 at least"
    private static void room() {
        for (int memory : new int[] {1, 2, 3, 10, 98, 99}) {
            PaidByHeart x = Pen.of("poem 40 0;poem 40 0;poem 40 0;man " + memory + " 59;fade 0;");
            Pen.law(x, "20");
            Pen.due("room at first", memory, () -> x.man(0, 2));
            Pen.work(x, "again 2[learn 0 0;learn 0 1;learn 0 2;];");
            Pen.due("full of " + memory, memory, () -> x.told(8));
            Pen.due("no room", 0, () -> x.man(0, 2));
            Pen.work(x, "again 10[week;];");
            Pen.due("half of " + memory, memory / 2, () -> x.man(0, 2));
            Pen.work(x, "learn 0 0;learn 0 1;learn 0 2;");
            Pen.due("full again", Math.min(60, memory / 2), () -> x.told(8));
            Pen.due("no room again", 0, () -> x.man(0, 2));
            Pen.due("his memory as told", memory, () -> x.man(0, 0));
        }
        PaidByHeart y = Pen.of("poem 4 5;poem 9 8;man 7 20;man 3 20;");
        Pen.work(y, "learn 0 0;learn 0 1;learn 1 0;");
        Pen.due("lines of all poems are counted", 2, () -> y.man(0, 2));
        Pen.due("his own alone", 0, () -> y.man(1, 2));
    }

    // KIND 0 "all L lines"; 1 "half of L (cut) and 1 more, but L at the most"; 3 "as for KIND 1, or as for KIND 2"
    private static void wellByKind() {
        for (int lines = 1; lines <= 40; lines++) {
            int middle = Math.min(lines, lines / 2 + 1);
            for (int known : new int[] {0, middle - 1, middle, lines - 1, lines}) {
                PaidByHeart x = knowing(lines, known, "debt 0 0 0 9;debt 0 0 1 9;debt 0 0 2 9;debt 0 0 3 9;");
                int[] well = {known == lines ? 1 : 0, known >= middle ? 1 : 0, 0, known >= middle ? 1 : 0};
                for (int i = 0; i < 4; i++) {
                    int debt = i;
                    Pen.due("kind " + i + " by " + known + " of " + lines, well[i], () -> x.debt(debt, 5));
                    Pen.work(x, "say " + i + ";");
                    Pen.due("paid so", well[i], () -> x.debt(debt, 4));
                    x.undo();
                }
            }
        }
    }

    // KIND 2 "as for KIND 0, and he had 1 lesson or more in this WEEK"
    private static void wellByLessonsOfTheWeek() {
        String debts = "debt 0 0 2 9;debt 0 0 3 9;poem 1 9;man 99 20;";
        PaidByHeart x = knowing(9, 9, debts);
        Pen.due("no lesson", 0, () -> x.debt(0, 5));
        Pen.due("a lullaby needs none", 1, () -> x.debt(1, 5));
        Pen.work(x, "learn 1 0;learn 1 1;");
        Pen.due("another man's", 0, () -> x.debt(0, 5));
        Pen.work(x, "learn 0 1;");
        Pen.due("one, of any poem", 1, () -> x.debt(0, 5));
        Pen.work(x, "forget 0 1;");
        Pen.due("let go again", 1, () -> x.debt(0, 5));
        Pen.work(x, "week;");
        Pen.due("in another week", 0, () -> x.debt(0, 5));
        Pen.work(x, "learn 0 0;");
        Pen.due("a refused one is none", 0, () -> x.debt(0, 5));
        PaidByHeart y = knowing(9, 8, debts);
        Pen.work(y, "learn 0 1;");
        Pen.due("a lesson, but a line too few", 0, () -> y.debt(0, 5));
        Pen.work(y, "learn 0 0;");
        Pen.due("that line", 1, () -> y.debt(0, 5));
    }

    // "200 STEPS at most are begun by one WORK (an again, too, each time it is come to; REFUSED ones, too)"
    private static void steps200() {
        // 1 + 195 are begun, then four more
        begun(WEEKS_195 + "week;week;week;", 198, 0);
        begun(WEEKS_195 + "week;week;week;week;", 199, 0);
        begun(WEEKS_195 + "week;week;week;week;week;", 199, 0);
        begun(WEEKS_195 + "week;week;week;forget 0 0;", 198, 1);
        begun(WEEKS_195 + "week;week;week;week;forget 0 0;", 199, 0);
        begun(WEEKS_195 + "forget 0 0;forget 0 0;forget 0 0;week;week;week;", 196, 3);
        // an again is the 200th: its steps are left out; is it the 199th, then one of them is begun
        begun(WEEKS_195 + "week;week;week;again 9[week;];week;", 198, 0);
        begun(WEEKS_195 + "week;week;again 9[week;];week;", 198, 0);
        begun(WEEKS_195 + "week;again 1[week;week;];week;", 198, 0);
        begun(WEEKS_195 + "again 0[week;];again 0[];again 40[];week;week;", 196, 0);
        // each time it is come to
        begun("again 40[again 0[week;];again 0[];again 0[];again 0[];week;];", 39, 0);
        begun("again 40[again 1[week;];again 1[week;];];", 80, 0);
        begun("again 40[forget 0 0;forget 0 0;forget 0 0;forget 0 0;week;];", 39, 160);
        begun("again 40[forget 0 0;again 1[forget 0 0;again 1[week;];];];", 39, 80);
        PaidByHeart x = Pen.of("poem 9 0;man 9 20;");
        Pen.work(x, WEEKS_195 + "week;week;week;week;learn 0 0;");
        Pen.due("what is left out changes nothing", 0, () -> x.knows(0, 0));
        Pen.due("the next work begins anew", 197, () -> Pen.work(x, WEEKS_195 + "week;learn 0 0;"));
        Pen.due("and comes to its last step", 9, () -> x.knows(0, 0));
    }

    private static void begun(String text, int done, int refused) {
        PaidByHeart x = Pen.of("poem 9 0;man 9 20;");
        Pen.due(text, done, () -> Pen.work(x, text));
        Pen.due("refused by " + text, refused, () -> x.told(10));
        Pen.due("one work", 1, () -> x.count(2));
    }

    // "learn: .. no more than there is ROOM for"
    private static void learnWithinRoom() {
        for (int room = 0; room <= 6; room++) {
            PaidByHeart x = Pen.of("poem 20 0;poem 20 0;man 10 20;");
            Pen.law(x, Integer.toString(10 - room));
            Pen.work(x, "learn 0 0;");
            Pen.law(x, "5");
            int left = room;
            int gain = Math.min(room, 5);
            Pen.due("room", left, () -> x.man(0, 2));
            Pen.due("gains into room of " + room, gain, () -> x.gains(0, 1));
            Pen.due("learns, whatever the room", 5, () -> x.learns(0, 1));
            Pen.due("learn into room of " + room, gain > 0 ? 1 : 0, () -> Pen.work(x, "learn 0 1;"));
            Pen.due("knows", gain, () -> x.knows(0, 1));
            Pen.due("lessons", gain > 0 ? 2 : 1, () -> x.man(0, 4));
            Pen.due("fresh", gain > 0 ? 3 : 1, () -> x.man(0, 8));
        }
    }

    // "learn: .. and L at the most"
    private static void learnWithinLines() {
        for (int known = 0; known <= 9; known++) {
            PaidByHeart x = knowing(9, known, "");
            Pen.law(x, "4");
            int gain = Math.min(4, 9 - known);
            Pen.due("gains by " + known, gain, () -> x.gains(0, 0));
            Pen.due("learn by " + known, gain > 0 ? 1 : 0, () -> Pen.work(x, "learn 0 0;"));
            Pen.due("knows then", known + gain, () -> x.knows(0, 0));
        }
    }

    // "REFUSED, if that would be no line more; then he had no lesson"
    private static void learnNoLineMore() {
        String[] why = {"no line is learnt", "no room", "all is known"};
        for (int i = 0; i < 3; i++) {
            PaidByHeart x = Pen.of("poem 5 0;poem 20 0;man 5 20;");
            Pen.law(x, i == 0 ? "0" : "5");
            if (i > 0) Pen.work(x, "learn 0 0;week;");
            int poem = i == 2 ? 0 : 1;
            int lessons = i == 0 ? 0 : 1;
            Pen.due(why[i], 0, () -> Pen.work(x, "learn 0 " + poem + ";"));
            Pen.due(why[i] + ": refused", 1, () -> x.told(10));
            Pen.due(why[i] + ": lessons", lessons, () -> x.man(0, 4));
            Pen.due(why[i] + ": lessons of the week", 0, () -> x.man(0, 5));
            Pen.due(why[i] + ": fresh", 0, () -> x.man(0, 8));
            Pen.due(why[i] + ": knows", i == 2 ? 5 : 0, () -> x.knows(0, poem));
        }
        PaidByHeart y = Pen.of("poem 5 0;man 5 20;");
        Pen.law(y, "1");
        Pen.due("one line more is enough", 1, () -> Pen.work(y, "learn 0 0;"));
    }

    // "forget: A knows no line of P (REFUSED, if he knows none; FRESH it stays)"
    private static void forget() {
        PaidByHeart x = knowing(9, 1, "man 9 20;poem 9 9;");
        Pen.work(x, "learn 0 1;learn 1 0;");
        Pen.due("one line", 1, () -> Pen.work(x, "forget 0 0;"));
        Pen.due("none then", 0, () -> x.knows(0, 0));
        Pen.due("the other poem stays", 1, () -> x.knows(0, 1));
        Pen.due("the other man's stays", 1, () -> x.knows(1, 0));
        Pen.due("none to forget", 0, () -> Pen.work(x, "forget 0 0;"));
        Pen.due("refused", 1, () -> x.told(10));
        Pen.due("not fresh before, nor now", 2, () -> x.man(0, 8));
        Pen.work(x, "forget 0 1;");
        Pen.due("fresh it stays", 2, () -> x.man(0, 8));
        Pen.due("he had the lesson", 1, () -> x.man(0, 5));
    }

    // "say: D is PAID, if its MAN knows its POEM WELL; else he SLIPS .. (REFUSED, if D is PAID)"
    private static void say() {
        PaidByHeart x = knowing(9, 8, "debt 0 0 0 9;debt 0 0 0 9;");
        Pen.due("a line too few is a step, too", 1, () -> Pen.work(x, "say 0;"));
        Pen.due("not refused", 0, () -> x.told(10));
        Pen.due("slipped", 1, () -> x.man(0, 6));
        Pen.due("not paid", 0, () -> x.told(4));
        PaidByHeart y = knowing(9, 9, "debt 0 0 0 0;debt 0 0 0 9;");
        Pen.work(y, "week;");
        Pen.due("a late one can be paid, the second, too", 2, () -> Pen.work(y, "say 1;say 0;"));
        Pen.due("both", 3, () -> y.told(4));
        Pen.due("nobody slipped", 0, () -> y.told(7));
        Pen.work(y, "forget 0 0;");
        Pen.due("paid ones are refused, known or not", 0, () -> Pen.work(y, "say 0;say 1;"));
        Pen.due("two of them", 2, () -> y.told(10));
        Pen.due("still nobody slipped", 0, () -> y.told(7));
        Pen.due("paid they stay", 3, () -> y.told(4));
    }

    // "he SLIPS: he knows 4 lines less of it, 0 at least"
    private static void slipFourLines() {
        for (int known = 0; known <= 8; known++) {
            PaidByHeart x = knowing(20, known, "man 9 20;poem 9 0;debt 0 0 0 9;");
            Pen.law(x, "9");
            Pen.work(x, "learn 0 1;learn 1 0;say 0;");
            int left = Math.max(0, known - 4);
            Pen.due("4 less than " + known, left, () -> x.knows(0, 0));
            Pen.due("of it alone", 9, () -> x.knows(0, 1));
            Pen.due("the other man's stay", 9, () -> x.knows(1, 0));
            Pen.due("one slip", 1, () -> x.told(7));
            Pen.work(x, "say 0;say 0;");
            Pen.due("0 at least", 0, () -> x.knows(0, 0));
            Pen.due("three slips", 3, () -> x.man(0, 6));
        }
    }

    // "duet: .. PAID, if the lines both of them know of its POEM are L together, or more; else both SLIP
    // (REFUSED, if D is PAID, or A is the MAN of D)"
    private static void duet() {
        for (int one = 0; one <= 9; one += 3) {
            for (int other = 0; other <= 9; other++) {
                PaidByHeart x = knowing(9, one, "man 99 20;debt 0 0 2 9;debt 1 0 0 9;poem 5 0;");
                Pen.law(x, Integer.toString(other));
                Pen.work(x, "learn 1 0;learn 1 1;");
                boolean enough = one + other >= 9;
                String both = one + " and " + other;
                Pen.due("partners by " + both, enough ? 2 : 0, () -> x.partners(0));
                Pen.due("duet by " + both, 1, () -> Pen.work(x, "duet 0 1;"));
                Pen.due("paid by " + both, enough ? 1 : 0, () -> x.told(4));
                Pen.due("slips by " + both, enough ? 0 : 2, () -> x.told(7));
                Pen.due("one each by " + both, enough ? 0 : 1, () -> x.man(1, 6));
                int[] left = {enough ? one : Math.max(0, one - 4), enough ? other : Math.max(0, other - 4)};
                Pen.due("the one's lines", left[0], () -> x.knows(0, 0));
                Pen.due("the other one's lines", left[1], () -> x.knows(1, 0));
                Pen.due("other poems stay", Math.min(5, other), () -> x.knows(1, 1));
                int slips = x.told(7);
                Pen.due("with its own man, or paid", 0, () -> Pen.work(x, "duet 0 0;duet 1 1;" + (enough ? "duet 0 1;" : "")));
                Pen.due("refused", enough ? 3 : 2, () -> x.told(10));
                Pen.due("nobody slips by that", slips, () -> x.told(7));
            }
        }
    }

    // "as many lines less as HARD by FADE (cut; by 0: none less), 0 at least"
    private static void weekFades() {
        for (int hard = 0; hard <= 9; hard++) {
            for (int fade = 0; fade <= 9; fade++) {
                PaidByHeart x = Pen.of("poem 40 " + hard + ";poem 1 " + hard + ";man 99 20;fade " + fade + ";");
                Pen.law(x, "20");
                Pen.work(x, "learn 0 0;learn 0 1;week;");
                int less = fade == 0 ? 0 : hard / fade;
                String by = hard + " by " + fade;
                Pen.due("fades " + by, less, () -> x.fades(0, 0));
                Pen.due("fades of one line, " + by, Math.min(1, less), () -> x.fades(0, 1));
                Pen.work(x, "week;");
                Pen.due("left, " + by, 20 - less, () -> x.knows(0, 0));
                Pen.due("left of one line, " + by, less == 0 ? 1 : 0, () -> x.knows(0, 1));
                Pen.work(x, "again 21[week;];");
                Pen.due("0 at least, " + by, less == 0 ? 20 : 0, () -> x.knows(0, 0));
            }
        }
    }

    // "each POEM that is not FRESH for him"; "no POEM is FRESH, lessons of this WEEK are 0; the WEEK is one more"
    private static void weekFresh() {
        PaidByHeart x = Pen.of(Pen.times(8, "poem 9 9;") + "man 99 20;man 99 20;");
        Pen.law(x, "5");
        Pen.work(x, "learn 0 0;learn 0 7;learn 1 3;");
        Pen.due("fresh for the one", 129, () -> x.man(0, 8));
        Pen.due("fresh for the other one", 8, () -> x.man(1, 8));
        Pen.due("lessons of the week", 2, () -> x.man(0, 5));
        Pen.work(x, "week;");
        Pen.due("none is fresh", 0, () -> x.man(0, 8) + x.man(1, 8));
        Pen.due("no lessons of the week", 0, () -> x.man(0, 5) + x.man(1, 5));
        Pen.due("lessons by now", 3, () -> x.man(0, 4) + x.man(1, 4));
        Pen.due("one week more", 1, () -> x.told(3));
        Pen.due("fresh ones did not fade", 15, () -> x.told(8));
        Pen.work(x, "learn 0 0;week;");
        Pen.due("a lesson keeps it fresh", 9, () -> x.knows(0, 0));
        Pen.due("without one it fades", 2, () -> x.knows(0, 7));
        Pen.due("the other man's, too", 2, () -> x.knows(1, 3));
        Pen.work(x, "learn 0 0;week;");
        Pen.due("a refused lesson does not keep it", 6, () -> x.knows(0, 0));
    }

    // "week (REFUSED from WEEK 400 on)"
    private static void weekRefused() {
        PaidByHeart x = Pen.of("poem 40 9;man 99 70;debt 0 0 0 0;fade 1;");
        Pen.work(x, WEEKS_195);
        Pen.work(x, WEEKS_195 + "week;week;week;week;");
        Pen.work(x, "again 5[week;];");
        Pen.due("week 399", 399, () -> x.told(3));
        Pen.due("the last one", 1, () -> Pen.work(x, "week;"));
        Pen.law(x, "5");
        Pen.work(x, "learn 0 0;");
        Pen.due("refused", 0, () -> Pen.work(x, "week;week;"));
        Pen.due("both", 2, () -> x.told(10));
        Pen.due("week 400 stays", 400, () -> x.told(3));
        Pen.due("fresh it stays", 1, () -> x.man(0, 8));
        Pen.due("lessons of the week stay", 1, () -> x.man(0, 5));
        Pen.due("nothing fades", 5, () -> x.knows(0, 0));
        Pen.due("age 110", 110, () -> x.man(0, 1));
        Pen.due("work goes on else", 3, () -> Pen.work(x, "week;learn 0 0;say 0;forget 0 0;"));
    }

    // "in every tenth WEEK (10, 20, ..) each AGE is one more"
    private static void tenthWeek() {
        int[] ages = {10, 70, 33};
        for (int weeks = 0; weeks <= 40; weeks++) {
            PaidByHeart y = Pen.of("man 9 10;man 9 70;man 9 33;");
            Pen.work(y, "again " + weeks + "[week;];");
            for (int i = 0; i < 3; i++) {
                int man = i;
                Pen.due("age behind " + weeks, ages[i] + weeks / 10, () -> y.man(man, 1));
            }
            Pen.due("nobody is old", 0, () -> y.told(6));
        }
    }

    // "who is 60 then is OLD, and knows nothing any more"; "(Who is told of 60 or more is not OLD by that.)"
    private static void sixtyThen() {
        for (int age = 56; age <= 70; age++) {
            PaidByHeart x = Pen.of("poem 40 0;poem 40 0;man 99 " + age + ";fade 0;");
            Pen.law(x, "20");
            Pen.work(x, "learn 0 0;learn 0 1;");
            int due = age < 60 ? (60 - age) * 10 : 1000;
            for (int week = 10; week <= 40; week += 10) {
                String when = " of " + age + " in week " + week;
                Pen.work(x, "again 9[week;];");
                Pen.due("a week ahead" + when, due < week ? 1 : 0, () -> x.told(6));
                Pen.due("knows a week ahead" + when, due < week ? 0 : 40, () -> x.told(8));
                Pen.work(x, "week;");
                Pen.due("old" + when, due <= week ? 1 : 0, () -> x.told(6));
                Pen.due("knows" + when, due <= week ? 0 : 40, () -> x.told(8));
                Pen.due("room" + when, due <= week ? 49 : 59, () -> x.man(0, 2));
            }
            Pen.due("lessons are not forgotten", 2, () -> x.man(0, 4));
        }
        // what is fresh is gone, too, and the others of 60 and 61 then keep what they know
        PaidByHeart y = Pen.of("poem 40 0;man 99 59;man 99 60;man 99 58;fade 0;");
        Pen.work(y, "again 9[week;];learn 0 0;learn 1 0;learn 2 0;week;");
        Pen.due("the first alone", 1, () -> y.told(6));
        Pen.due("he knows nothing", 0, () -> y.knows(0, 0));
        Pen.due("the second does", 9, () -> y.knows(1, 0));
        Pen.due("the third does", 9, () -> y.knows(2, 0));
        // told of 20 he is 60 in the last week there is, told of 19 he is not
        PaidByHeart z = Pen.of("man 9 20;man 9 19;");
        Pen.work(z, WEEKS_195);
        Pen.work(z, WEEKS_195 + "week;week;week;week;");
        Pen.work(z, "again 5[week;];");
        Pen.due("week 399", 0, () -> z.told(6));
        Pen.work(z, "week;");
        Pen.due("week 400", 1, () -> z.told(6));
        Pen.due("asked, week 409", 1, () -> z.ahead(9, 2));
        Pen.due("asked, week 410", 3, () -> z.ahead(10, 2));
    }

    // "(OLD he stays)"
    private static void oldStays() {
        PaidByHeart x = Pen.of("poem 40 0;man 99 59;fade 0;");
        Pen.law(x, "20");
        Pen.work(x, "again 10[week;];learn 0 0;learn 0 0;");
        Pen.work(x, "again 10[week;];");
        Pen.due("61", 61, () -> x.man(0, 1));
        Pen.due("old", 1, () -> x.told(6));
        Pen.due("what he learnt when he was old stays", 40, () -> x.knows(0, 0));
        Pen.due("half of 99 less 40", 9, () -> x.man(0, 2));
        x.undo();
        Pen.due("60", 60, () -> x.man(0, 1));
        Pen.due("old still", 1, () -> x.told(6));
        x.undo();
        Pen.due("not old any more, undone", 0, () -> x.told(6));
        Pen.due("all memory", 99, () -> x.man(0, 2));
    }

    // "A DEBT is LATE, if it is not PAID, and the WEEK is above its DUE"
    private static void late() {
        for (int due : new int[] {0, 1, 9, 10, 39, 40}) {
            PaidByHeart x = Pen.of("poem 1 0;man 9 20;debt 0 0 0 " + due + ";debt 0 0 0 40;");
            Pen.work(x, "again " + due + "[week;];");
            Pen.due("in week " + due, 0, () -> x.told(5));
            Pen.due("asked, a week on", due == 40 ? 3 : 1, () -> x.ahead(1, 1));
            Pen.work(x, "week;");
            Pen.due("a week on", due == 40 ? 3 : 1, () -> x.told(5));
            Pen.work(x, "learn 0 0;say 0;");
            Pen.due("paid it is late no more", due == 40 ? 2 : 0, () -> x.told(5));
        }
        PaidByHeart y = Pen.of("poem 1 0;man 9 20;debt 0 0 0 2;");
        int[] late = {0, 0, 0, 1, 1};
        for (int week = 0; week < 5; week++) {
            Pen.due("late in week " + week, late[week], () -> y.told(5));
            Pen.work(y, "week;");
        }
    }

    // promise 8: "(of no STEPS, or with all of them REFUSED, too) .. how many are left; -1: there is none"
    private static void undo16() {
        PaidByHeart x = Pen.of("poem 9 0;man 9 20;");
        Pen.due("none", -1, () -> x.undo());
        Pen.due("none still", -1, () -> x.undo());
        String[] works = {"", "  ", "forget 0 0;", "again 0[week;];", "week;", "learn 0 0;", "again 40[forget 0 0;];", "week;"};
        for (String text : works) Pen.work(x, text);
        for (String text : works) Pen.work(x, text);
        for (int left = 15; left >= 0; left--) {
            int n = left;
            Pen.due("undo to " + n, n, () -> x.undo());
            Pen.due("works", n, () -> x.count(2));
            int week = 2 * (n / 8) + (n % 8 > 4 ? 1 : 0);
            Pen.due("week behind undo to " + n, week, () -> x.told(3));
            Pen.due("told(10) behind undo", 0, () -> x.told(10));
        }
        Pen.due("none is left", -1, () -> x.undo());
        // a faulty work, and one too many, are none that could be undone
        Pen.work(x, "week;");
        Pen.work(x, "bad");
        Pen.due("the week is undone", 0, () -> x.undo() + x.told(3));
    }

    // promise 9: "7 how often one SLIPPED by now (in a duet that fails twice)", "10 .. (0 ahead of any, ..)"
    private static void told() {
        PaidByHeart x = Pen.of("poem 40 9;man 9 20;man 9 20;debt 0 0 0 9;debt 1 0 0 9;");
        int[] slips = {1, 3, 5, 6};
        String[] works = {"say 0;", "duet 0 1;", "duet 1 0;", "say 1;"};
        for (int i = 0; i < 4; i++) {
            Pen.work(x, works[i]);
            Pen.due("slips behind " + works[i], slips[i], () -> x.told(7));
        }
        Pen.due("of the first", 3, () -> x.man(0, 6));
        Pen.due("of the second", 3, () -> x.man(1, 6));
        Pen.due("none refused", 0, () -> x.told(10));
        Pen.work(x, "week;duet 0 0;forget 0 0;learn 0 0;");
        Pen.due("three refused", 3, () -> x.told(10));
        Pen.work(x, "bad");
        Pen.due("the latest work is still that", 3, () -> x.told(10));
        Pen.valley(x, "bad");
        Pen.due("a faulty valley leaves it", 3, () -> x.told(10));
        Pen.law(x, "5");
        Pen.book(x, "0 0 1;");
        x.image();
        Pen.due("so do law, book, image", 3, () -> x.told(10));
        x.undo();
        Pen.due("0 behind undo", 0, () -> x.told(10));
        Pen.work(x, "forget 0 0;");
        x.restore();
        Pen.due("0 behind restore", 0, () -> x.told(10));
        Pen.work(x, "forget 0 0;");
        Pen.due("1 again", 1, () -> x.told(10));
        Pen.work(x, "");
        Pen.due("a work of no steps refuses none", 0, () -> x.told(10));
        Pen.work(x, "forget 0 0;");
        Pen.valley(x, "");
        Pen.due("0 behind a valley", 0, () -> x.told(10));
    }

    // promises 10 to 12: bits of several
    private static void twoMenTwoDebts() {
        PaidByHeart x = Pen.of("poem 9 0;poem 9 0;man 99 20;man 99 20;man 99 20;debt 2 0 0 9;debt 1 0 0 9;debt 2 1 0 9;");
        Pen.work(x, "learn 2 0;learn 1 0;learn 0 1;");
        Pen.due("two know all lines", 6, () -> x.poem(0, 2));
        Pen.due("one knows all lines", 1, () -> x.poem(1, 2));
        Pen.due("unpaid by the first poem", 3, () -> x.poem(0, 3));
        Pen.work(x, "say 1;duet 2 0;");
        Pen.due("a duet pays beside what is paid", 6, () -> x.told(4));
        Pen.due("unpaid by the first poem then", 1, () -> x.poem(0, 3));
        Pen.due("by the second one", 0, () -> x.poem(1, 3));
        Pen.work(x, "say 0;");
        Pen.due("say, too", 7, () -> x.told(4));
        Pen.due("his debts", 0, () -> x.man(2, 7));
        x.undo();
        Pen.due("undone", 1, () -> x.man(2, 7));
        Pen.due("need of what is paid", 0, () -> x.debt(1, 6));
    }

    // promise 36: "how many there are; -1: there are 3", 37: "how many are left; -1: there is none"
    private static void images3() {
        PaidByHeart x = Pen.of("");
        Pen.due("none", -1, () -> x.restore());
        for (int i = 1; i <= 3; i++) {
            int images = i;
            Pen.due("image " + i, images, () -> x.image());
            Pen.due("count", images, () -> x.count(0));
            Pen.work(x, "week;");
        }
        Pen.due("there are 3", -1, () -> x.image());
        Pen.due("still 3", 3, () -> x.count(0));
        for (int i = 2; i >= 0; i--) {
            int left = i;
            Pen.due("restore to " + i, left, () -> x.restore());
            Pen.due("week of it", left, () -> x.told(3));
            Pen.due("works of it", left, () -> x.count(2));
        }
        Pen.due("there is none", -1, () -> x.restore());
        Pen.due("nothing is restored", 0, () -> x.told(3));
        // what is gone makes room
        Pen.due("an image again", 1, () -> x.image());
    }

    // "An IMAGE of all that WORK changes, and of the WORKS that can be undone", 16 of them in each of 3
    private static void imagesOfFullWorks() {
        PaidByHeart x = Pen.of("poem 40 9;man 99 20;fade 9;");
        Pen.law(x, "1");
        for (int i = 0; i < 3; i++) {
            while (x.undo() >= 0) { }
            Pen.work(x, "again " + (20 * i) + "[week;];");
            for (int j = 0; j < 15; j++) Pen.work(x, i == 1 ? "week;" : "learn 0 0;");
            x.image();
        }
        Pen.due("three images, each of 16 works", 3, () -> x.count(0));
        int[][] weeks = {{0, 0}, {20, 1}, {40, 0}};
        for (int i = 2; i >= 0; i--) {
            int image = i;
            Pen.due("restore", image, () -> x.restore());
            for (int left = 15; left >= 1; left--) {
                int works = left;
                Pen.due("undo to " + left, works, () -> x.undo());
                int done = left - 1;
                Pen.due("week by " + left, weeks[i][0] + done * weeks[i][1], () -> x.told(3));
                Pen.due("lines by " + left, image == 1 ? 0 : done, () -> x.told(8));
                Pen.due("lessons by " + left, image == 1 ? 0 : done, () -> x.man(0, 4));
            }
            Pen.due("undo to 0", 0, () -> x.undo());
            Pen.due("week 0", 0, () -> x.told(3));
        }
    }

    // promise 38: "How many calls were refused"
    private static void refusalsOfEachCall() {
        PaidByHeart x = Pen.of("poem 9 0;man 9 20;debt 0 0 0 9;");
        Edges.By[] none = {n -> x.poem(n, 9), n -> x.man(n, 9), n -> x.debt(n, 9), n -> x.knows(n, 0), n -> x.knows(0, n),
            n -> x.learns(n, 0), n -> x.learns(0, n), n -> x.lessons(n, 0), n -> x.lessons(0, n), n -> x.pays(n),
            n -> x.hardest(n), n -> x.candles(n, -1, -1), n -> x.partners(n), n -> x.fades(n, 0), n -> x.fades(0, n),
            n -> x.gains(n, 0), n -> x.gains(0, n), n -> x.closest(n, 9), n -> x.best(n, 9), n -> x.chorus(n, -1),
            n -> x.knows(n, n), n -> x.learns(n, n), n -> x.lessons(n, n), n -> x.fades(n, n), n -> x.gains(n, n)};
        for (int i = 0; i < none.length; i++) {
            Edges.By call = none[i];
            int counted = i + 1;
            Pen.noSuch("call " + i, () -> call.answer(i(counted)));
            Pen.due("counted once, " + i, counted, () -> x.status(0));
            Pen.due("as nothing else, " + i, 0, () -> x.status(1));
        }
        Edges.By[] wrong = {n -> x.valley(n), n -> x.law(n), n -> x.work(n), n -> x.book(n), n -> x.told(n),
            n -> x.poem(0, n), n -> x.man(0, n), n -> x.debt(0, n), n -> x.would(n, n, n, n, n, n, n, n), n -> x.ahead(n, n),
            n -> x.fits(n), n -> x.look(n), n -> x.kept(n, n, n, n), n -> x.fair(n, n, n), n -> x.candles(0, n, n),
            n -> x.fullest(n), n -> x.next(n), n -> x.closest(0, n), n -> x.best(0, n), n -> x.chorus(0, n),
            n -> x.season(n, n, n, n), n -> x.span(n, n, n, n, n, n), n -> x.span(1, 1, 0, 1, 2, n)};
        for (int i = 0; i < wrong.length; i++) {
            Edges.By call = wrong[i];
            int counted = i + 1;
            Pen.illegal("call " + i, () -> call.answer(-1));
            Pen.due("counted once, " + i, counted, () -> x.status(1));
            Pen.due("as nothing else, " + i, none.length, () -> x.status(0));
        }
        for (int what : new int[] {-1, 2, 3, Integer.MIN_VALUE, Integer.MAX_VALUE}) {
            Pen.due("NONE for others", -1, () -> x.status(what));
        }
        // neither a valley nor an image nor a work undone brings it back
        x.image();
        x.restore();
        Pen.work(x, "");
        x.undo();
        Pen.valley(x, "");
        Pen.due("elements", none.length, () -> x.status(0));
        Pen.due("arguments", wrong.length, () -> x.status(1));
    }

    /** Numbers of nothing, on both sides. */
    private static int i(int n) {
        return n % 2 == 0 ? -1 : 1;
    }

    // promise 39: "NONE for others"
    private static void counts() {
        PaidByHeart x = Pen.of("");
        for (int what : new int[] {-1, 3, 4, Integer.MIN_VALUE, Integer.MAX_VALUE}) {
            Pen.due("count of " + what, -1, () -> x.count(what));
        }
        Pen.due("it is no refusal", 0, () -> x.status(1));
        for (int i = 0; i < 30; i++) x.feed(1, 1, 1, 1, 1);
        Pen.due("bytes", 600, () -> x.count(1));
    }

    /**
     * A valley by which nothing fades, in its week 1; its first man, of memory 99, knows so many lines of its first
     * poem, hard 9, which is not fresh. A lesson gives one line.
     */
    private static PaidByHeart knowing(int lines, int known, String more) {
        StringBuilder things = new StringBuilder();
        StringBuilder debts = new StringBuilder();
        for (String clause : more.split(";")) {
            if (!clause.isEmpty()) (clause.startsWith("debt") ? debts : things).append(clause).append(';');
        }
        PaidByHeart x = Pen.of("poem " + lines + " 9;man 99 20;fade 0;" + things + debts);
        Pen.law(x, "1");
        Pen.work(x, "again " + known + "[learn 0 0;];week;");
        return x;
    }
}
