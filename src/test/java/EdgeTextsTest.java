/** Each sentence of the document on texts that names an edge, both its sides: Terms, promises 1 to 7. */
public final class EdgeTextsTest {
    private static final String SMALL = "poem 10 0;poem 6 5;man 30 20;man 8 59;debt 0 0 0 3;";
    /** 2 to the 31st, which wraps to the least number of 32 bits. */
    private static final String LEAST = "(512*512*512*16)";
    private static final String MOST = "(512*512*512*16-1)";

    public static void main(String[] args) {
        valleyOf600Bytes();
        clauses60();
        poems8();
        men6();
        debts10();
        debtsOfWhatIsToldAhead();
        fade();
        lawIsOneSum();
        lawWithout();
        learns0To20();
        lawNumbers();
        valuesWrap();
        quotients();
        workNumbers();
        agains();
        bookLines();
        numbersAreAllDigits();
        eachByte();
        blanks();
        faultsFromTheLeft();
        tooEarly();
        sevenOpen();
        ofOneTheLeast();
        newObject();
        tapeOf600();
        bytesOfATextByN();
        worksAreFull();
        faultOfTheLatestText();
        Pen.end();
    }

    // "A VALLEY is a text of up to 600 bytes"
    private static void valleyOf600Bytes() {
        PaidByHeart x = new PaidByHeart();
        String text = Pen.times(99, " ") + "fade 0;" + Pen.times(487, " ") + "fade 7;";
        Pen.due("its length", 600, () -> text.length());
        Pen.feed(x, text);
        Pen.due("600 bytes stand on the tape", 600, () -> x.count(1));
        Pen.illegal("valley(601)", () -> x.valley(601));
        Pen.due("valley(600)", 0, () -> x.valley(600));
        Pen.due("its last clause counts", 7, () -> x.told(11));
        Pen.feed(x, text);
        Pen.due("valley(599) ends too early", -9, () -> x.valley(599));
        Pen.due("at the length", 599, () -> x.fault());
    }

    // "{ CLAUSE ; }, at most 60"; "3 a CLAUSE .. too many (at its word)"
    private static void clauses60() {
        String full = Pen.times(8, "poem 1 0;") + Pen.times(6, "man 1 10;") + Pen.times(10, "debt 0 0 0 0;")
            + Pen.times(36, "fade 1;");
        Edges.takes("", "valley", "", 0);
        Edges.takes("", "valley", full, 10);
        for (String word : new String[] {"poem 1 0;", "man 1 10;", "debt 0 0 0 0;", "fade 1;", "fade", "fade x;"}) {
            Edges.refuses("", "valley", full + "  " + word, 3, full.length() + 2);
            Edges.refuses("", "valley", Pen.times(60, "fade 1;") + word, 3, 420);
        }
        // 60 clauses, though there would be room for each sort
        Edges.takes("", "valley", Pen.times(58, "fade 1;") + "poem 1 0;man 1 10;", 0);
        Edges.refuses("", "valley", Pen.times(59, "fade 1;") + "poem 1 0;man 1 10;", 3, 422);
    }

    // "POEMS .. 8 at most: LINES L, 1 to 40, HARD H, 0 to 9"
    private static void poems8() {
        Edges.number("", "valley", "poem ", 1, 40, " 0;", 0);
        Edges.number("", "valley", "poem 40 ", 0, 9, ";", 0);
        Edges.takes("", "valley", Pen.times(8, "poem 1 0;"), 0);
        Edges.refuses("", "valley", Pen.times(9, "poem 1 0;"), 3, 72);
        Edges.refuses("", "valley", Pen.times(8, "poem 1 0;") + "poem 0 99;", 3, 72);
        PaidByHeart x = Pen.of("poem 1 9;poem 40 0;" + Pen.times(6, "poem 2 1;"));
        Pen.due("told", 8, () -> x.told(0));
        Pen.due("1 line", 1, () -> x.poem(0, 0));
        Pen.due("hard 9", 9, () -> x.poem(0, 1));
        Pen.due("40 lines", 40, () -> x.poem(1, 0));
        Pen.due("hard 0", 0, () -> x.poem(1, 1));
    }

    // "MEN likewise, 6: MEMORY M, 1 to 99, AGE A, 10 to 70"
    private static void men6() {
        Edges.number("", "valley", "man ", 1, 99, " 10;", 0);
        Edges.number("", "valley", "man 1 ", 10, 70, ";", 0);
        Edges.takes("", "valley", Pen.times(6, "man 1 10;"), 0);
        Edges.refuses("", "valley", Pen.times(7, "man 1 10;"), 3, 54);
        PaidByHeart x = Pen.of("man 1 70;man 99 10;" + Pen.times(4, "man 2 20;"));
        Pen.due("told", 6, () -> x.told(1));
        Pen.due("memory 1", 1, () -> x.man(0, 0));
        Pen.due("age 70", 70, () -> x.man(0, 1));
        Pen.due("memory 99", 99, () -> x.man(1, 0));
        Pen.due("age 10", 10, () -> x.man(1, 1));
    }

    // "DEBTS likewise, 10: .. KIND K, 0 to 3, DUE in WEEK D, 0 to 40"
    private static void debts10() {
        String land = "poem 1 0;man 1 10;";
        Edges.number("", "valley", land + "debt 0 0 ", 0, 3, " 0;", 1);
        Edges.number("", "valley", land + "debt 0 0 3 ", 0, 40, ";", 1);
        Edges.takes("", "valley", land + Pen.times(10, "debt 0 0 0 0;"), 10);
        Edges.refuses("", "valley", land + Pen.times(11, "debt 0 0 0 0;"), 3, 148);
    }

    // "MAN A owes POEM P, both told ahead"
    private static void debtsOfWhatIsToldAhead() {
        String land = Pen.times(8, "poem 1 0;") + Pen.times(6, "man 1 10;");
        Edges.number("", "valley", land + "debt ", 0, 5, " 0 0 0;", 1);
        Edges.number("", "valley", land + "debt 5 ", 0, 7, " 0 0;", 1);
        Edges.number("", "valley", "poem 1 0;man 1 10;debt ", 0, 0, " 0 0 0;man 1 10;poem 1 0;", 1);
        Edges.number("", "valley", "poem 1 0;man 1 10;debt 0 ", 0, 0, " 0 0;man 1 10;poem 1 0;", 1);
        // what the valley ahead of this one told counts for nothing
        Edges.refuses(land, "valley", "debt 0 0 0 0;", 2, 5);
        Edges.refuses(land, "valley", "man 1 10;debt 0 0 0 0;", 2, 16);
        Edges.refuses(land, "valley", "poem 1 0;debt 0 0 0 0;", 2, 14);
    }

    // "fade N (0 to 9; 3 without; the last counts)"
    private static void fade() {
        Edges.number("", "valley", "fade ", 0, 9, ";", 0);
        PaidByHeart x = Pen.of("fade 9;fade 8;fade 0;");
        Pen.due("the last counts", 0, () -> x.told(11));
        Pen.valley(x, "poem 1 0;");
        Pen.due("3 without", 3, () -> x.told(11));
        Pen.valley(x, "fade 5;fade 10;");
        Pen.due("of a faulty text none counts", 3, () -> x.told(11));
    }

    // "A LAW is a text of up to 150 bytes: E, at the end nothing more"
    private static void lawIsOneSum() {
        String longest = "1" + Pen.times(74, "+0") + " ";
        Edges.takes("", "law", longest, 1);
        Edges.takes("", "law", Pen.times(149, " ") + "7", 1);
        PaidByHeart x = new PaidByHeart();
        Pen.feed(x, longest + "0");
        Pen.illegal("law(151)", () -> x.law(151));
        Pen.due("law(150)", 1, () -> x.law(150));
        Edges.refuses("", "law", "", 1, 0);
        Edges.refuses("", "law", Pen.times(150, " "), 1, 150);
        for (String more : new String[] {"5", "lines", "(5)", "least[1,2]", ")", "]", "[", ",", ";"}) {
            Edges.refuses("", "law", "7 " + more, 1, 2);
        }
    }

    // "without: 9 - hard"
    private static void lawWithout() {
        PaidByHeart x = new PaidByHeart();
        for (int i = 0; i <= 9; i++) {
            int hard = i;
            Pen.due("without a law, hard " + i, 9 - i, () -> x.would(40, hard, 40, 99, 150, 999, 400, 5));
        }
    }

    // "what comes out, 0 at least, 20 at most"
    private static void learns0To20() {
        String[] laws = {"0-1", "0", "1", "19", "20", "21", "999", "0-999", LEAST, MOST};
        int[] learns = {0, 0, 1, 19, 20, 20, 20, 0, 0, 20};
        for (int i = 0; i < laws.length; i++) comesOut(laws[i], learns[i]);
    }

    // "N (0 to 999)"
    private static void lawNumbers() {
        for (int n : new int[] {0, 1, 998, 999}) comesOut(n + "", Math.min(20, n));
        comesOut("999-980", 19);
        comesOut("0000000999-984", 15);
        Edges.refuses("", "law", "1000", 2, 0);
        Edges.refuses("", "law", "5*(7-1000)", 2, 5);
        Edges.refuses("", "law", "least[ 4294967296 , 1]", 2, 7);
        Edges.refuses("", "law", Pen.times(150, "9"), 2, 0);
        Edges.refuses("", "law", "1000+bad", 2, 0);
    }

    // "Values are whole numbers of 32 bits that wrap"
    private static void valuesWrap() {
        comesOut(MOST + "+1", 0);
        comesOut(LEAST + "-1", 20);
        comesOut("0-" + LEAST, 0);
        comesOut(LEAST + "+" + LEAST + "+6", 6);
        comesOut(LEAST + "*2+7", 7);
        comesOut(LEAST + "*" + LEAST + "+8", 8);
        comesOut(MOST + "*" + MOST + "+8", 9);
        comesOut("256*256*256*256+5", 5);
        comesOut("256*256*256*256/256", 0);
        comesOut("0-999*999*999*999/(999*999*100)", 4);
        comesOut(MOST + "*2+14", 12);
        // compared as they are, not by a difference that wraps
        comesOut("most[" + LEAST + ",3]", 3);
        comesOut("least[" + MOST + ",4]", 4);
        comesOut("least[" + LEAST + "," + MOST + "]", 0);
        comesOut("most[" + LEAST + "," + MOST + "]", 20);
        comesOut("least[4," + MOST + "]+most[3," + LEAST + "]", 7);
        comesOut("least[5,5]+most[6,6]", 11);
    }

    // "/ cuts, % leaves (with the sign of what is divided), by 0 both are 0"
    private static void quotients() {
        comesOut("7/2", 3);
        comesOut("(0-7)/2+9", 6);
        comesOut("7/(0-2)+9", 6);
        comesOut("(0-7)/(0-2)", 3);
        comesOut("1/2+(0-1)/2", 0);
        comesOut("7%3", 1);
        comesOut("(0-7)%3+9", 8);
        comesOut("7%(0-3)+9", 10);
        comesOut("(0-7)%(0-3)+9", 8);
        comesOut("(0-6)%3+9", 9);
        for (String divided : new String[] {"0", "5", "(0-5)", LEAST, MOST}) {
            comesOut(divided + "/0+9", 9);
            comesOut(divided + "%0+9", 9);
            comesOut(divided + "/(hard-hard)+9", 9);
            comesOut(divided + "%(hard-hard)+9", 9);
        }
        // the one quotient that wraps: half of it is a half of the least again
        comesOut(LEAST + "/(0-1)", 0);
        comesOut(LEAST + "/(0-1)/(512*512*512*2)+9", 1);
        comesOut(LEAST + "%(0-1)+9", 9);
        comesOut(LEAST + "/1%7+9", 7);
        // from the left, and ahead of + and -
        comesOut("9/2*2", 8);
        comesOut("9%5*2", 8);
        comesOut("9*2%5", 3);
        comesOut("1+9/0*5", 1);
    }

    // "learn A P, forget A P, say D, duet D A": of the men, poems and debts there are
    private static void workNumbers() {
        String land = "poem 40 9;poem 40 9;poem 40 9;man 9 20;man 9 20;debt 0 0 0 0;debt 1 2 0 0;";
        Edges.number(land, "work", "learn ", 0, 1, " 2;", 0);
        Edges.number(land, "work", "learn 1 ", 0, 2, ";", 0);
        Edges.number(land, "work", "forget ", 0, 1, " 2;", 0);
        Edges.number(land, "work", "forget 1 ", 0, 2, ";", 0);
        Edges.number(land, "work", "say ", 0, 1, ";", 1);
        Edges.takes(land, "work", "duet 1 0;", 1);
        Edges.takes(land, "work", "duet 0 0;duet 1 1;", 0);
        Edges.takes(land, "work", "duet 0 1;", 1);
        Edges.refuses(land, "work", "duet 0 2;", 2, 7);
        Edges.refuses(land, "work", "duet 2 0;", 2, 5);
        for (String word : new String[] {"learn", "forget", "say", "duet"}) {
            Edges.refuses("", "work", word + " 0 0;", 2, word.length() + 1);
        }
        Edges.refuses("man 9 20;", "work", "learn 0 0;", 2, 8);
        Edges.refuses("man 9 20;", "work", "forget 0 0;", 2, 9);
        Edges.refuses("poem 9 2;", "work", "learn 0 0;", 2, 6);
        Edges.refuses("poem 9 2;man 9 20;", "work", "say 0;", 2, 4);
        Edges.takes("", "work", "week;again 2[week;];", 3);
    }

    // "again N [ { STEP ; } ] (N 0 to 40)"
    private static void agains() {
        for (int n = 0; n <= 40; n++) Edges.takes("", "work", "again " + n + "[week;];", n);
        Edges.number("", "work", "again ", 0, 40, "[];", 0);
        Edges.refuses("", "work", "again 1 week;", 1, 8);
        Edges.refuses("", "work", "again 1(week;);", 1, 7);
        Edges.refuses("", "work", "again 1[week;", 1, 13);
        Edges.refuses("", "work", "again 1[", 1, 8);
        Edges.refuses("", "work", "again 1[]", 1, 9);
        Edges.refuses("", "work", "again 1[]];", 1, 9);
        Edges.refuses("", "work", "];", 1, 0);
        Edges.takes("", "work", Pen.times(30, "week;"), 30);
        Edges.takes("", "work", Pen.times(150, " "), 0);
        Edges.takes("", "work", Pen.times(145, " ") + "week;", 1);
    }

    // "A BOOK is one of up to 60 bytes: { A P N ; }, 6 lines at most: .. N lines (0 to 99)"
    private static void bookLines() {
        Edges.number(SMALL, "book", "", 0, 1, " 0 0;", 1);
        Edges.number(SMALL, "book", "0 ", 0, 1, " 0;", 1);
        Edges.number(SMALL, "book", "0 0 ", 0, 99, ";", 1);
        for (int lines = 0; lines <= 6; lines++) Edges.takes(SMALL, "book", Pen.times(lines, "0 0 1;"), lines);
        Edges.refuses(SMALL, "book", Pen.times(6, "0 0 1;") + "  1 1 5;", 3, 38);
        Edges.takes(SMALL, "book", Pen.times(54, " ") + "0 0 5;", 1);
        Edges.takes(SMALL, "book", Pen.times(60, " "), 0);
        PaidByHeart x = Pen.of(SMALL);
        Pen.feed(x, Pen.times(55, " ") + "0 0 5;");
        Pen.illegal("book(61)", () -> x.book(61));
        Pen.due("book(60) ends too early", -9, () -> x.book(60));
        Edges.refuses("", "book", "0 0 0;", 2, 0);
        Edges.refuses("man 9 20;", "book", "0 0 0;", 2, 2);
        Edges.refuses("poem 9 2;", "book", "0 0 0;", 2, 0);
    }

    // "Numbers: digits, as many as stand there; WORDS: small letters, as many as stand there"
    private static void numbersAreAllDigits() {
        Edges.takes("", "valley", "fade " + Pen.times(500, "0") + "9;", 0);
        Edges.refuses("", "valley", "fade " + Pen.times(500, "9") + ";", 2, 5);
        Edges.refuses("", "valley", "fade 18446744073709551616;", 2, 5);
        Edges.refuses("", "valley", "fade 12;", 2, 5);
        Edges.refuses("", "valley", "poem 4 12;", 2, 7);
        Edges.takes("", "valley", "poem 4 2;fade4;man1 10;", 0);
        // two numbers that no blank parts are one
        Edges.refuses("", "valley", "poem 42;", 2, 5);
        Edges.refuses("", "valley", "poem 12;", 1, 7);
        Edges.refuses("", "valley", "fadefade 1;", 1, 0);
        Edges.refuses("", "valley", "fad e 1;", 1, 0);
        Edges.refuses("", "valley", Pen.times(600, "a"), 1, 0);
        Edges.refuses("", "work", "weekweek;", 1, 0);
        Edges.refuses("", "law", "le ast[1,2]", 1, 0);
        Edges.refuses("", "law", "hardhard", 1, 0);
        Edges.takes("", "law", "hard+hard", 1);
        Edges.refuses(SMALL, "book", "00 0;", 1, 4);
    }

    /** What may stand at one place of a text: each of 256 bytes there. */
    private static void eachByte() {
        for (int b = 0; b < 256; b++) {
            char c = (char) b;
            boolean digit = c >= '0' && c <= '9';
            boolean letter = c >= 'a' && c <= 'z';
            String valley = "poem" + c + "1 0;";
            if (c == ' ' || c >= '0' && c <= '3') Edges.takes("", "valley", valley, 0);
            else if (digit) Edges.refuses("", "valley", valley, 2, 4);
            else Edges.refuses("", "valley", valley, 1, letter ? 0 : 4);
            String end = "fade 1" + c;
            if (c == ';') Edges.takes("", "valley", end, 0);
            else if (digit) Edges.refuses("", "valley", end, 2, 5);
            else Edges.refuses("", "valley", end, 1, c == ' ' ? 7 : 6);
            String law = "5" + c + "3";
            if (digit || "+-*/%".indexOf(c) >= 0) Edges.takes("", "law", law, 1);
            else Edges.refuses("", "law", law, 1, c == ' ' ? 2 : 1);
            String work = "week" + c;
            if (c == ';') Edges.takes("", "work", work, 1);
            else Edges.refuses("", "work", work, 1, letter ? 0 : c == ' ' ? 5 : 4);
            String book = c + "0 0 0;";
            if (digit && c < '2') Edges.takes(SMALL, "book", c + " 0 0;", 1);
            else if (digit) Edges.refuses(SMALL, "book", book, 2, 0);
            else if (c == ' ') Edges.takes(SMALL, "book", book, 1);
            else Edges.refuses(SMALL, "book", book, 1, 0);
        }
    }

    // "blanks (32) may stand ahead of all these, and at the end"
    private static void blanks() {
        Edges.takes("", "valley", "   poem   9   0   ;   man   9   20   ;   debt   0   0   0   0   ;   fade   1   ;   ", 1);
        Edges.takes("", "valley", "poem9 0;man9 20;debt0 0 0 0;fade1;", 1);
        Edges.takes("", "law", "  least  [  1  ,  (  lines  +  2  )  *  3  ]  -  most  [  4  %  5  ,  6  /  7  ]  ", 1);
        Edges.takes("", "law", "least[1,(lines+2)*3]-most[4%5,6/7]", 1);
        Edges.takes(SMALL, "work", "  again  2  [  learn  0  0  ;  week  ;  ]  ;  say  0  ;  duet  0  1  ;  ", 5);
        Edges.takes(SMALL, "work", "again2[learn0 0;week;];say0;duet0 1;", 5);
        Edges.takes(SMALL, "book", "  0  0  9  ;  1  1  0  ;  ", 2);
        // no blank within a number or a word
        Edges.refuses("", "valley", "poem 1 0 0;", 1, 9);
        Edges.refuses("", "valley", "po em 1 0;", 1, 0);
        // a place behind blanks is told as that of the first byte, not of the blanks
        Edges.refuses("", "valley", "poem   77 0;", 2, 7);
        Edges.refuses("", "valley", "   bad", 1, 3);
        Edges.refuses("", "law", "5   x", 1, 4);
        Edges.refuses("", "work", "week   x", 1, 7);
        Edges.refuses(SMALL, "book", "0   7 0;", 2, 4);
    }

    // "FAULTS, the first from the left, at its first byte"
    private static void faultsFromTheLeft() {
        Edges.refuses("", "valley", "poem 41 10;", 2, 5);
        Edges.refuses("", "valley", "poem 40 10 10;", 2, 8);
        Edges.refuses("", "valley", "poem x 10;", 1, 5);
        Edges.refuses("", "valley", "fade 10;" + Pen.times(9, "poem 1 0;"), 2, 5);
        Edges.refuses("", "valley", Pen.times(9, "poem 1 0;") + "bad", 3, 72);
        Edges.refuses("", "law", "bad+1000", 1, 0);
        Edges.refuses("", "law", "1000+bad", 2, 0);
        Edges.refuses("", "law", "(((((((1000", 3, 6);
        Edges.refuses("", "work", "say 7;bad", 2, 4);
        Edges.refuses("", "work", "bad;say 7;", 1, 0);
        Edges.refuses(SMALL, "work", "learn 2 2;", 2, 6);
        Edges.refuses(SMALL, "book", "2 2 100;", 2, 0);
        Edges.refuses(SMALL, "book", "1 2 100;", 2, 2);
    }

    // "1 what can't stand there (at the length, if the text ends too early)"
    private static void tooEarly() {
        String[] valleys = {"poem", "poem 1", "poem 1 0", "man", "man 1", "man 1 10", "fade", "fade 1"};
        for (String text : valleys) early("valley", text);
        for (String text : new String[] {"debt", "debt 0", "debt 0 0", "debt 0 0 0", "debt 0 0 0 0"}) {
            early("valley", "poem 1 0;man 1 10;" + text);
        }
        String[] laws = {"", "5+", "5-", "5*", "5/", "5%", "(", "(5", "least", "least[", "least[5", "least[5,", "least[5,6",
            "most", "most[", "most[5", "most[5,", "most[5,6"};
        for (String text : laws) early("law", text);
        String[] works = {"learn", "learn 0", "learn 0 0", "forget", "forget 0", "forget 0 0", "say", "say 0", "duet",
            "duet 0", "duet 0 0", "week", "again", "again 0", "again 0[", "again 0[week", "again 0[week;",
            "again 0[week;]"};
        for (String text : works) early("work", text);
        for (String text : new String[] {"0", "0 0", "0 0 0"}) early("book", text);
    }

    private static void early(String sort, String text) {
        Edges.refuses(SMALL, sort, text, 1, text.length());
        Edges.refuses(SMALL, sort, text + "  ", 1, text.length() + 2);
    }

    // "a 7th of ( least most again that is open at one time"
    private static void sevenOpen() {
        String[] opens = {"(", "least[", "most["};
        String[] closes = {")", ",1]", ",1]"};
        for (int i = 0; i < 3; i++) {
            String six = Pen.times(6, opens[i]) + "1" + Pen.times(6, closes[i]);
            Edges.takes("", "law", six, 1);
            comesOut(six.replace("1", "7"), 7);
            // what is closed is open no more
            Edges.takes("", "law", six + "+" + Pen.times(6, opens[i]) + "1" + Pen.times(6, closes[i]), 1);
            for (String seventh : opens) {
                Edges.refuses("", "law", Pen.times(6, opens[i]) + " " + seventh, 3, 6 * opens[i].length() + 1);
            }
        }
        // in the second place of least and most, too
        Edges.takes("", "law", "least[1,most[1,(((( 1 ))))]]", 1);
        Edges.refuses("", "law", "least[1,most[1,((((( 1 )))))]]", 3, 19);
        Edges.refuses("", "law", "((((((1))))))+(((((( ( 1 )))))))", 3, 21);
        Edges.takes("", "work", Pen.times(6, "again 1[") + "week;" + Pen.times(6, "];"), 1);
        Edges.refuses("", "work", Pen.times(7, "again 1["), 3, 48);
        Edges.takes("", "work", Pen.times(6, "again1[") + Pen.times(6, "];") + Pen.times(6, "again1[") + Pen.times(6, "];"), 0);
        Edges.takes("", "work", Pen.times(5, "again1[") + "again0[];again1[week;];" + Pen.times(5, "];"), 1);
        Edges.refuses("", "work", Pen.times(6, "again1[") + "week; again", 3, 48);
    }

    // "of one the least": of faults at one place that of the least number
    private static void ofOneTheLeast() {
        String open = Pen.times(6, "(");
        // what can't stand there at all is that, a seventh or not
        Edges.refuses("", "law", open + "5(", 1, 7);
        Edges.refuses("", "law", open + "5least[", 1, 7);
        Edges.refuses("", "law", open + "leasts[", 1, 6);
        Edges.refuses("", "law", open + "[", 1, 6);
        Edges.refuses("", "work", Pen.times(6, "again1[") + "week again1[", 1, 47);
        Edges.refuses("", "work", Pen.times(6, "again1[") + "agai", 1, 42);
        Edges.refuses("", "valley", Pen.times(60, "fade 1;") + "bad", 1, 420);
        Edges.refuses("", "valley", Pen.times(60, "fade 1;") + ";", 1, 420);
        Edges.refuses("", "valley", Pen.times(60, "fade 1;") + "poem 0 0;", 3, 420);
        Edges.refuses(SMALL, "book", Pen.times(6, "0 0 1;") + ";", 1, 36);
        Edges.refuses(SMALL, "book", Pen.times(6, "0 0 1;") + "2 0 1;", 2, 36);
        Edges.refuses(SMALL, "book", Pen.times(6, "0 0 1;") + "1 9 1;", 3, 36);
    }

    // promise 1: "A VALLEY without CLAUSES"
    private static void newObject() {
        PaidByHeart x = new PaidByHeart();
        for (int what = 0; what <= 11; what++) {
            int asked = what;
            Pen.due("new: told(" + what + ")", what == 11 ? 3 : 0, () -> x.told(asked));
        }
        Pen.noSuch("no poem", () -> x.poem(0, 0));
        Pen.noSuch("no man", () -> x.man(0, 0));
        Pen.noSuch("no debt", () -> x.debt(0, 0));
        Pen.due("no work", -1, () -> x.undo());
        Pen.due("no image", -1, () -> x.restore());
        Pen.due("no fault", -1, () -> x.fault());
        Pen.due("no byte", 0, () -> x.count(1));
        Pen.due("no men, all are free", 0, () -> x.free());
        Pen.due("an empty book", 0, () -> Pen.book(x, ""));
        Pen.due("a work of weeks", 2, () -> Pen.work(x, "week;week;"));
    }

    // promise 2: "the highest first"; "NONE, doing nothing, if there would be more than 600"
    private static void tapeOf600() {
        PaidByHeart x = new PaidByHeart();
        for (int i = 1; i <= 29; i++) x.feed(0x20202020, 0x20202020, 0x20202020, 0x20202020, 0x20202020);
        Pen.due("the thirtieth", 600, () -> x.feed(0x66616465, 0x20343b66, 0x61646520, 0x373b6661, 0x64652032));
        for (int i = 0; i < 2; i++) Pen.due("no more than 600", -1, () -> x.feed(-1, -1, -1, -1, -1));
        Pen.due("it did nothing", 600, () -> x.count(1));
        Pen.due("the last ; is not there", -9, () -> x.valley(600));
        Pen.due("the bytes are as they were fed", 600, () -> x.fault());
        Pen.due("room again", 20, () -> x.feed(0x66616465, 0x20383b00, 0, 0, 0));
        x.valley(7);
        Pen.due("each byte in its place", 8, () -> x.told(11));
        x.feed(Integer.MIN_VALUE, Integer.MAX_VALUE, -1, 0, 0x01020304);
        Pen.due("any byte may come", 20, () -> x.count(1));
        Pen.due("and can't stand in a text", -9, () -> x.valley(20));
        Pen.due("at the first", 0, () -> x.fault());
    }

    // promises 3 to 6: "IllegalArgumentException: n is not 0 to the TAPE's bytes (it stays)", "(n to 150)", "(n to 60)"
    private static void bytesOfATextByN() {
        int[] filled = {0, 20, 40, 60, 80, 140, 160, 600};
        int[] longest = {600, 150, 150, 60};
        String[] sorts = {"valley", "law", "work", "book"};
        for (int bytes : filled) {
            for (int i = 0; i < 4; i++) {
                String sort = sorts[i];
                PaidByHeart x = Pen.of(SMALL);
                Pen.feed(x, Pen.times(bytes, " "));
                int most = Math.min(bytes, longest[i]);
                for (int n : new int[] {-1, most + 1, bytes + 1, Integer.MIN_VALUE, Integer.MAX_VALUE}) {
                    Pen.illegal(sort + "(" + n + ") of " + bytes, () -> byN(x, sort, n));
                }
                Pen.due("the tape stays", bytes, () -> x.count(1));
                Pen.due("the last that is allowed, of " + bytes, sort.equals("law") ? -9 : 0, () -> byN(x, sort, most));
                Pen.due("all the tape is empty then", 0, () -> x.count(1));
                Pen.illegal(sort + "(1) of none", () -> byN(x, sort, 1));
                Pen.due(sort + "(0) of none", sort.equals("law") ? -9 : 0, () -> byN(x, sort, 0));
            }
        }
    }

    private static int byN(PaidByHeart x, String sort, int n) {
        switch (sort) {
            case "valley": return x.valley(n);
            case "law": return x.law(n);
            case "work": return x.work(n);
            default: return x.book(n);
        }
    }

    // promise 5: "-20 behind the exception, ahead of the FAULT (nothing is read, there is no FAULT, the TAPE is
    // empty then): 16 WORKS are there that were not undone"
    private static void worksAreFull() {
        PaidByHeart x = Pen.of(SMALL);
        for (int i = 1; i <= 16; i++) {
            int works = i;
            Pen.due("work " + i, 1, () -> Pen.work(x, "week;"));
            Pen.due("works", works, () -> x.count(2));
        }
        Pen.law(x, "bad");
        Pen.due("a fault stands", 0, () -> x.fault());
        Pen.feed(x, "week;");
        Pen.illegal("behind the exception", () -> x.work(21));
        Pen.due("the tape stays", 20, () -> x.count(1));
        Pen.due("the fault stays", 0, () -> x.fault());
        Pen.due("the 17th", -20, () -> x.work(5));
        Pen.due("the tape is empty", 0, () -> x.count(1));
        Pen.due("there is no fault", -1, () -> x.fault());
        Pen.due("nothing is done", 16, () -> x.told(3));
        for (String text : new String[] {"", "bad", "learn 9 9;", Pen.times(7, "again 1[")}) {
            Pen.due("ahead of the fault: " + text, -20, () -> Pen.work(x, text));
            Pen.due("none in " + text, -1, () -> x.fault());
        }
        Pen.due("still 16", 16, () -> x.count(2));
        x.undo();
        Pen.due("a fault of a work again", -9, () -> Pen.work(x, "bad"));
        Pen.due("which is none of 16", 15, () -> x.count(2));
        Pen.due("the 16th again", 0, () -> Pen.work(x, ""));
        Pen.due("and full again", -20, () -> Pen.work(x, ""));
        Pen.valley(x, SMALL);
        Pen.due("a new valley has none", 0, () -> Pen.work(x, ""));
    }

    // promise 7: "The place of the FAULT of the latest text; NONE without"
    private static void faultOfTheLatestText() {
        String[] sorts = {"valley", "law", "work", "book"};
        String[] fine = {SMALL, "5", "week;", "0 0 1;"};
        String[] bad = {"fade 1;bad", "5+bad", "week;bad", "0 0 1;bad"};
        int[] places = {7, 2, 5, 6};
        for (int i = 0; i < 4; i++) {
            for (int j = 0; j < 4; j++) {
                PaidByHeart x = Pen.of(SMALL);
                Edges.read(x, sorts[i], bad[i]);
                Pen.due("place", places[i], () -> x.fault());
                Pen.due("it stays", places[i], () -> x.fault());
                Edges.read(x, sorts[j], fine[j]);
                Pen.due(sorts[j] + " without one behind " + sorts[i], -1, () -> x.fault());
                Edges.read(x, sorts[j], bad[j]);
                Pen.due(sorts[j] + " with one", places[j], () -> x.fault());
                Edges.read(x, sorts[i], bad[i]);
                Pen.due(sorts[i] + " with another one", places[i], () -> x.fault());
            }
        }
    }

    private static void comesOut(String law, int learns) {
        PaidByHeart x = new PaidByHeart();
        Pen.due("law " + law, 1, () -> Pen.law(x, law));
        Pen.due("by law " + law, learns, () -> x.would(1, 2, 3, 4, 10, 6, 7, 5));
    }
}
