import java.util.NoSuchElementException;

/** Debts in a valley that are paid by saying a poem by heart. */
public final class PaidByHeart {
    public static final int NONE = -1;

    private static final int LONGEST_TEXT = 150;
    private static final int LONGEST_BOOK = 60;
    private static final int WORKS_ARE_FULL = -20;
    private static final int FAULT_LESS = 10;

    private final Tape tape;
    private final Valley valley;
    private final Valley draftValley;
    private final Law law;
    private final Law draftLaw;
    private final Book book;
    private final Book draftBook;
    private final Work steps;
    private final State now;
    private final Shelf shelf;
    private final Outlook outlook;
    private final PayChoice payChoice;
    private int refusedSteps;
    private int noSuchCalls;
    private int illegalCalls;

    public PaidByHeart() {
        Valley land = new Valley();
        Law rule = new Law();
        State today = new State(land, rule);
        tape = new Tape();
        valley = land;
        draftValley = new Valley();
        law = rule;
        draftLaw = new Law();
        book = new Book();
        draftBook = new Book();
        steps = new Work();
        now = today;
        shelf = new Shelf();
        outlook = new Outlook(land, today, new State(land, rule));
        payChoice = new PayChoice(land, today);
    }

    // ---- texts ----

    public int feed(int a, int b, int c, int d, int e) {
        if (tape.filled + 20 > Tape.CAPACITY) {
            return NONE;
        }
        tape.put(a);
        tape.put(b);
        tape.put(c);
        tape.put(d);
        tape.put(e);
        return tape.filled;
    }

    public int valley(int n) throws IllegalArgumentException {
        openText(n, Tape.CAPACITY);
        if (!draftValley.readFrom(tape)) {
            return tape.faultKind - FAULT_LESS;
        }
        valley.copyFrom(draftValley);
        law.makePlain();
        book.lines = 0;
        now.clear();
        shelf.clear();
        refusedSteps = 0;
        return valley.debts;
    }

    public int law(int n) throws IllegalArgumentException {
        openText(n, LONGEST_TEXT);
        if (!draftLaw.readFrom(tape)) {
            return tape.faultKind - FAULT_LESS;
        }
        law.copyFrom(draftLaw);
        return 1;
    }

    public int work(int n) throws IllegalArgumentException {
        openText(n, LONGEST_TEXT);
        if (shelf.works >= Shelf.MOST_WORKS) {
            return WORKS_ARE_FULL;
        }
        if (!steps.readFrom(tape, valley)) {
            return tape.faultKind - FAULT_LESS;
        }
        shelf.pushWork(now);
        steps.doSteps(now, 0, steps.size, 0);
        refusedSteps = steps.refused;
        return steps.done;
    }

    public int book(int n) throws IllegalArgumentException {
        openText(n, LONGEST_BOOK);
        if (!draftBook.readFrom(tape, valley)) {
            return tape.faultKind - FAULT_LESS;
        }
        book.copyFrom(draftBook);
        return book.lines;
    }

    public int fault() {
        return tape.faultPlace;
    }

    // ---- works undone, images ----

    public int undo() {
        if (!shelf.popWork(now)) {
            return -1;
        }
        refusedSteps = 0;
        return shelf.works;
    }

    public int image() {
        return shelf.pushImage(now) ? shelf.images : -1;
    }

    public int restore() {
        if (!shelf.popImage(now)) {
            return -1;
        }
        refusedSteps = 0;
        return shelf.images;
    }

    // ---- what is told, what is so now ----

    public int told(int what) throws IllegalArgumentException {
        switch (what) {
            case 0: return valley.poems;
            case 1: return valley.men;
            case 2: return valley.debts;
            case 3: return now.week();
            case 4: return now.paidBits();
            case 5: return now.lateBits();
            case 6: return now.oldBits();
            case 7: return now.allSlips();
            case 8: return now.everyLine();
            case 9: return book.lines;
            case 10: return refusedSteps;
            case 11: return valley.fade;
            default: return refuseArgument();
        }
    }

    public int poem(int poem, int what) throws NoSuchElementException, IllegalArgumentException {
        needPoem(poem);
        switch (what) {
            case 0: return valley.lines[poem];
            case 1: return valley.hard[poem];
            case 2: return now.whoKnowAll(poem);
            case 3: return valley.debtsByPoem(poem) & ~now.paidBits();
            default: return refuseArgument();
        }
    }

    public int man(int man, int what) throws NoSuchElementException, IllegalArgumentException {
        needMan(man);
        switch (what) {
            case 0: return valley.memory[man];
            case 1: return now.ageOf(man);
            case 2: return now.roomOf(man);
            case 3: return now.linesOf(man);
            case 4: return now.lessonsOf(man);
            case 5: return now.weekLessonsOf(man);
            case 6: return now.slipsOf(man);
            case 7: return valley.debtsOfMan(man) & ~now.paidBits();
            case 8: return now.freshBitsOf(man);
            default: return refuseArgument();
        }
    }

    public int debt(int debt, int what) throws NoSuchElementException, IllegalArgumentException {
        needDebt(debt);
        switch (what) {
            case 0: return valley.debtMan[debt];
            case 1: return valley.debtPoem[debt];
            case 2: return valley.debtKind[debt];
            case 3: return valley.debtDue[debt];
            case 4: return now.isPaid(debt) ? 1 : 0;
            case 5: return now.isWellKnown(debt) ? 1 : 0;
            case 6: return now.isPaid(debt) ? 0 : now.needOf(debt);
            default: return refuseArgument();
        }
    }

    public int knows(int man, int poem) throws NoSuchElementException {
        needMan(man);
        needPoem(poem);
        return now.linesKnown(man, poem);
    }

    public int learns(int man, int poem) throws NoSuchElementException {
        needMan(man);
        needPoem(poem);
        return now.learnable(man, poem, now.roomOf(man));
    }

    public int would(int lines, int hard, int known, int room, int age, int lessons, int week, int man)
            throws IllegalArgumentException {
        need(isWithin(lines, 1, Valley.MOST_LINES) && isWithin(hard, 0, 9) && isWithin(known, 0, 40));
        need(isWithin(room, 0, 99) && isWithin(age, 10, 150) && isWithin(lessons, 0, 999));
        need(isWithin(week, 0, 400) && isWithin(man, 0, 5));
        law.tellPoem(lines, hard, known);
        law.tellMan(room, age, lessons, week, man);
        return law.outcome();
    }

    public int free() {
        int unpaid = ~now.paidBits();
        int bits = 0;
        for (int man = 0; man < valley.men; man++) {
            if ((valley.debtsOfMan(man) & unpaid) == 0) {
                bits |= 1 << man;
            }
        }
        return bits;
    }

    public int partners(int debt) throws NoSuchElementException {
        needDebt(debt);
        if (now.isPaid(debt)) {
            return 0;
        }
        int bits = 0;
        for (int man = 0; man < valley.men; man++) {
            if (man != valley.debtMan[debt] && now.isSungBy(debt, man)) {
                bits |= 1 << man;
            }
        }
        return bits;
    }

    public int gains(int man, int poem) throws NoSuchElementException {
        needMan(man);
        needPoem(poem);
        return now.gainOf(man, poem);
    }

    public int fullest(int what) throws IllegalArgumentException {
        need(isWithin(what, 0, 1));
        int first = NONE;
        int most = NONE;
        for (int man = 0; man < valley.men; man++) {
            int lines = now.linesOf(man);
            if (lines > most) {
                first = man;
                most = lines;
            }
        }
        return what == 0 ? first : most;
    }

    public int next(int what) throws IllegalArgumentException {
        need(isWithin(what, 0, 1));
        int first = NONE;
        int week = NONE;
        for (int debt = 0; debt < valley.debts; debt++) {
            if (!now.isPaid(debt) && (first == NONE || valley.debtDue[debt] < week)) {
                first = debt;
                week = valley.debtDue[debt];
            }
        }
        return what == 0 ? first : week;
    }

    public int closest(int man, int what) throws NoSuchElementException, IllegalArgumentException {
        needMan(man);
        need(isWithin(what, 0, 1));
        int first = NONE;
        int least = NONE;
        for (int debt = 0; debt < valley.debts; debt++) {
            if (valley.debtMan[debt] == man && !now.isPaid(debt)) {
                int lessons = now.needOf(debt);
                if (first == NONE || lessons < least) {
                    first = debt;
                    least = lessons;
                }
            }
        }
        return what == 0 ? first : least;
    }

    public int best(int poem, int what) throws NoSuchElementException, IllegalArgumentException {
        needPoem(poem);
        need(isWithin(what, 0, 1));
        int first = NONE;
        int most = 0;
        for (int man = 0; man < valley.men; man++) {
            int lines = now.linesKnown(man, poem);
            if (lines > most) {
                first = man;
                most = lines;
            }
        }
        if (first == NONE) {
            return NONE;
        }
        return what == 0 ? first : most;
    }

    public int chorus(int poem, int men) throws NoSuchElementException, IllegalArgumentException {
        needPoem(poem);
        need(valley.areMen(men));
        int lines = 0;
        for (int man = 0; man < valley.men; man++) {
            if ((men >> man & 1) == 1) {
                lines += now.linesKnown(man, poem);
            }
        }
        return Math.min(lines, valley.lines[poem]);
    }

    public int candles(int man, int men, int n) throws NoSuchElementException, IllegalArgumentException {
        needMan(man);
        need(valley.areMen(men) && isWithin(n, 0, 999));
        if ((men >> man & 1) == 0) {
            return 0;
        }
        // nobody knows more lines than the greatest memory, so that bound gives all
        int bound = Valley.MOST_MEMORY;
        while (bound > 0 && candlesGiven(men, bound) > n) {
            bound--;
        }
        return Math.min(now.linesOf(man), bound);
    }

    // ---- what would be ----

    public int ahead(int n, int what) throws IllegalArgumentException {
        need(isWithin(n, 0, 99) && isWithin(what, 0, 2));
        State then = outlook.afterWeeks(n);
        switch (what) {
            case 0: return then.everyLine();
            case 1: return then.lateBits();
            default: return then.oldBits();
        }
    }

    public int fades(int man, int poem) throws NoSuchElementException {
        needMan(man);
        needPoem(poem);
        return now.linesKnown(man, poem) - outlook.afterWeeks(1).linesKnown(man, poem);
    }

    public int lessons(int man, int poem) throws NoSuchElementException {
        needMan(man);
        needPoem(poem);
        int lessons = outlook.lessonsFor(man, poem);
        return lessons == Outlook.NEVER ? NONE : lessons;
    }

    public int hardest(int man) throws NoSuchElementException {
        needMan(man);
        return outlook.hardestFor(man);
    }

    public int pays(int man) throws NoSuchElementException {
        needMan(man);
        return payChoice.chosenFor(man);
    }

    public int season(int seed, int q, int weeks, int what) throws IllegalArgumentException {
        need(isWithin(q, 0, 16) && isWithin(weeks, 1, 48) && isWithin(what, 0, 3));
        State then = outlook.afterSeason(seed, q, weeks);
        switch (what) {
            case 0: return then.paidBits();
            case 1: return then.everyLine();
            case 2: return then.allSlips() - now.allSlips();
            default: return then.allLessons() - now.allLessons();
        }
    }

    public int span(int seed, int many, int q, int weeks, int what, int debt) throws IllegalArgumentException {
        need(isWithin(many, 1, 10) && isWithin(q, 0, 16) && isWithin(weeks, 1, 48));
        need(isWithin(what, 0, 2) && isWithin(debt, 0, valley.debts - 1));
        int fewest = Integer.MAX_VALUE;
        int most = 0;
        int paid = 0;
        for (int i = 0; i < many; i++) {
            State then = outlook.afterSeason(seed + i, q, weeks);
            int lines = then.everyLine();
            fewest = Math.min(fewest, lines);
            most = Math.max(most, lines);
            paid += then.isPaid(debt) ? 1 : 0;
        }
        switch (what) {
            case 0: return fewest;
            case 1: return most;
            default: return paid;
        }
    }

    // ---- the book ----

    public int fits(int what) throws IllegalArgumentException {
        need(isWithin(what, 0, 1));
        int many = 0;
        int first = NONE;
        for (int man = 0; man < valley.men; man++) {
            for (int poem = 0; poem < valley.poems; poem++) {
                if (book.agrees(now, man, poem)) {
                    many++;
                    first = first == NONE ? 10 * man + poem : first;
                }
            }
        }
        return what == 0 ? many : first;
    }

    public int look(int what) throws IllegalArgumentException {
        need(isWithin(what, 0, 1));
        int all = pairsThatFit();
        int first = NONE;
        int least = NONE;
        for (int man = 0; man < valley.men; man++) {
            for (int poem = 0; poem < valley.poems; poem++) {
                if (!book.tells(man, poem)) {
                    int worst = leftAtWorst(man, poem, all);
                    if (first == NONE || worst < least) {
                        first = 10 * man + poem;
                        least = worst;
                    }
                }
            }
        }
        return what == 0 ? first : least;
    }

    // ---- sums that need no valley ----

    public long kept(int n, int k, int q, int part) throws IllegalArgumentException {
        need(isWithin(n, 0, 12) && isWithin(k, 0, 13) && isWithin(q, 0, 16) && isWithin(part, 0, 1));
        long above = 0;
        for (int keeps = k; keeps <= n; keeps++) {
            above += choices(n, keeps) * power(16 - q, keeps) * power(q, n - keeps);
        }
        long below = power(16, n);
        // below is a power of two, so halving alone brings least terms
        for (int i = 0; i < 4 * n && above % 2 == 0; i++) {
            above /= 2;
            below /= 2;
        }
        return part == 0 ? above : below;
    }

    public int fair(int v, int w, int what) throws IllegalArgumentException {
        need(isWithin(v, 0, 99) && isWithin(w, 0, 99) && isWithin(what, 0, 2));
        int rests = 0;
        int first = NONE;
        int together = 0;
        for (int one = 0; one <= 1; one++) {
            for (int other = 0; other <= 1; other++) {
                int ones = fairShare(one, other, v, w);
                int others = fairShare(other, one, v, w);
                if (fairShare(1 - one, other, v, w) <= ones && fairShare(1 - other, one, v, w) <= others) {
                    rests++;
                    if (first == NONE) {
                        first = 10 * one + other;
                        together = ones + others;
                    }
                }
            }
        }
        switch (what) {
            case 0: return rests;
            case 1: return first;
            default: return together;
        }
    }

    // ---- counts ----

    public int status(int what) {
        switch (what) {
            case 0: return noSuchCalls;
            case 1: return illegalCalls;
            default: return NONE;
        }
    }

    public int count(int what) {
        switch (what) {
            case 0: return shelf.images;
            case 1: return tape.filled;
            case 2: return shelf.works;
            default: return NONE;
        }
    }

    // ---- helpers of the face ----

    private void openText(int n, int longest) {
        need(isWithin(n, 0, Math.min(longest, tape.filled)));
        tape.open(n);
    }

    private static boolean isWithin(int number, int least, int most) {
        return number >= least && number <= most;
    }

    private void need(boolean holds) {
        if (!holds) {
            refuseArgument();
        }
    }

    /** Never answers; it tells a type so that a switch can end by it. */
    private int refuseArgument() {
        illegalCalls++;
        throw new IllegalArgumentException("an argument that is none such");
    }

    private void needPoem(int poem) {
        needElement(poem, valley.poems);
    }

    private void needMan(int man) {
        needElement(man, valley.men);
    }

    private void needDebt(int debt) {
        needElement(debt, valley.debts);
    }

    private void needElement(int number, int many) {
        if (number < 0 || number >= many) {
            noSuchCalls++;
            throw new NoSuchElementException("no such poem, man or debt");
        }
    }

    private int candlesGiven(int men, int bound) {
        int given = 0;
        for (int man = 0; man < valley.men; man++) {
            if ((men >> man & 1) == 1) {
                given += Math.min(now.linesOf(man), bound);
            }
        }
        return given;
    }

    private int pairsThatFit() {
        int many = 0;
        for (int man = 0; man < valley.men; man++) {
            for (int poem = 0; poem < valley.poems; poem++) {
                many += book.agrees(now, man, poem) ? 1 : 0;
            }
        }
        return many;
    }

    /** Hearing a pair parts only that pair itself from the others, and only if its lesson gives lines. */
    private int leftAtWorst(int man, int poem, int all) {
        if (now.gainOf(man, poem) > 0 && book.agrees(now, man, poem)) {
            return Math.max(all - 1, 1);
        }
        return all;
    }

    private static long choices(int n, int k) {
        long many = 1;
        for (int i = 1; i <= k; i++) {
            many = many * (n - k + i) / i;
        }
        return many;
    }

    private static long power(int base, int exponent) {
        long product = 1;
        for (int i = 0; i < exponent; i++) {
            product *= base;
        }
        return product;
    }

    /** What one has who chooses mine (0 fair, 1 cruel) while the other one chooses theirs. */
    private static int fairShare(int mine, int theirs, int v, int w) {
        if (theirs == 1) {
            return 0;
        }
        return mine == 0 ? v : w;
    }

    // ---- the tape, and how texts on it are read ----

    private static final class Tape {
        static final int CAPACITY = 600;
        static final int STRANGE = 1;
        static final int NO_SUCH_NUMBER = 2;
        static final int TOO_MANY = 3;
        private static final int GREATEST_NUMBER = 999;

        private final int[] bytes = new int[CAPACITY];
        int filled;
        int faultKind;
        int faultPlace = NONE;
        int value;
        private int length;
        private int at;
        private int wordStart;

        void put(int number) {
            for (int shift = 24; shift >= 0; shift -= 8) {
                if (filled < CAPACITY) {
                    bytes[filled] = number >>> shift & 255;
                    filled++;
                }
            }
        }

        /** The tape is empty from here on, but the text's bytes stay where they are until the next put. */
        void open(int n) {
            length = n;
            at = 0;
            filled = 0;
            faultKind = 0;
            faultPlace = NONE;
        }

        private void skipBlanks() {
            while (at < length && bytes[at] == ' ') {
                at++;
            }
        }

        boolean ended() {
            skipBlanks();
            return at >= length;
        }

        boolean sees(char sign) {
            skipBlanks();
            return at < length && bytes[at] == sign;
        }

        boolean seesDigit() {
            skipBlanks();
            return at < length && bytes[at] >= '0' && bytes[at] <= '9';
        }

        boolean takes(char sign) {
            skipBlanks();
            if (at < length && bytes[at] == sign) {
                at++;
                return true;
            }
            return false;
        }

        boolean needs(char sign) {
            skipBlanks();
            if (at < length && bytes[at] == sign) {
                at++;
                return true;
            }
            return refuse(at, STRANGE);
        }

        /** The number goes to value. */
        boolean needsNumber(int least, int most) {
            skipBlanks();
            int start = at;
            int sum = 0;
            while (at < length && bytes[at] >= '0' && bytes[at] <= '9') {
                // beyond the greatest number more digits make it no better, and must not wrap
                if (sum <= GREATEST_NUMBER) {
                    sum = sum * 10 + bytes[at] - '0';
                }
                at++;
            }
            if (at == start) {
                return refuse(start, STRANGE);
            }
            value = sum;
            return sum >= least && sum <= most || refuse(start, NO_SUCH_NUMBER);
        }

        /** Takes the letters that stand here, which may be none; isWord and refuseWord speak of them. */
        void takeWord() {
            skipBlanks();
            wordStart = at;
            while (at < length && bytes[at] >= 'a' && bytes[at] <= 'z') {
                at++;
            }
        }

        boolean isWord(String word) {
            if (at - wordStart != word.length()) {
                return false;
            }
            for (int i = 0; i < word.length(); i++) {
                if (bytes[wordStart + i] != word.charAt(i)) {
                    return false;
                }
            }
            return true;
        }

        boolean refuseWord(int kind) {
            return refuse(wordStart, kind);
        }

        /** The next byte that is no blank, or the length. */
        int place() {
            skipBlanks();
            return at;
        }

        boolean refuse(int place, int kind) {
            faultPlace = place;
            faultKind = kind;
            return false;
        }
    }

    // ---- the valley as told ----

    private static final class Valley {
        static final int MOST_CLAUSES = 60;
        static final int MOST_POEMS = 8;
        static final int MOST_MEN = 6;
        static final int MOST_DEBTS = 10;
        static final int MOST_LINES = 40;
        static final int MOST_MEMORY = 99;
        private static final int FADE_WITHOUT = 3;

        int poems;
        int men;
        int debts;
        int fade = FADE_WITHOUT;
        final int[] lines = new int[MOST_POEMS];
        final int[] hard = new int[MOST_POEMS];
        final int[] memory = new int[MOST_MEN];
        final int[] age = new int[MOST_MEN];
        final int[] debtMan = new int[MOST_DEBTS];
        final int[] debtPoem = new int[MOST_DEBTS];
        final int[] debtKind = new int[MOST_DEBTS];
        final int[] debtDue = new int[MOST_DEBTS];

        void copyFrom(Valley other) {
            poems = other.poems;
            men = other.men;
            debts = other.debts;
            fade = other.fade;
            System.arraycopy(other.lines, 0, lines, 0, MOST_POEMS);
            System.arraycopy(other.hard, 0, hard, 0, MOST_POEMS);
            System.arraycopy(other.memory, 0, memory, 0, MOST_MEN);
            System.arraycopy(other.age, 0, age, 0, MOST_MEN);
            System.arraycopy(other.debtMan, 0, debtMan, 0, MOST_DEBTS);
            System.arraycopy(other.debtPoem, 0, debtPoem, 0, MOST_DEBTS);
            System.arraycopy(other.debtKind, 0, debtKind, 0, MOST_DEBTS);
            System.arraycopy(other.debtDue, 0, debtDue, 0, MOST_DEBTS);
        }

        boolean readFrom(Tape tape) {
            poems = 0;
            men = 0;
            debts = 0;
            fade = FADE_WITHOUT;
            for (int clause = 0; clause <= MOST_CLAUSES; clause++) {
                if (tape.ended()) {
                    return true;
                }
                if (!readClause(tape, clause == MOST_CLAUSES) || !tape.needs(';')) {
                    return false;
                }
            }
            return false;
        }

        private boolean readClause(Tape tape, boolean full) {
            tape.takeWord();
            if (tape.isWord("poem")) {
                return full || poems >= MOST_POEMS ? tape.refuseWord(Tape.TOO_MANY) : readPoem(tape);
            }
            if (tape.isWord("man")) {
                return full || men >= MOST_MEN ? tape.refuseWord(Tape.TOO_MANY) : readMan(tape);
            }
            if (tape.isWord("debt")) {
                return full || debts >= MOST_DEBTS ? tape.refuseWord(Tape.TOO_MANY) : readDebt(tape);
            }
            if (tape.isWord("fade")) {
                return full ? tape.refuseWord(Tape.TOO_MANY) : readFade(tape);
            }
            return tape.refuseWord(Tape.STRANGE);
        }

        private boolean readPoem(Tape tape) {
            if (!tape.needsNumber(1, MOST_LINES)) {
                return false;
            }
            lines[poems] = tape.value;
            if (!tape.needsNumber(0, 9)) {
                return false;
            }
            hard[poems] = tape.value;
            poems++;
            return true;
        }

        private boolean readMan(Tape tape) {
            if (!tape.needsNumber(1, MOST_MEMORY)) {
                return false;
            }
            memory[men] = tape.value;
            if (!tape.needsNumber(10, 70)) {
                return false;
            }
            age[men] = tape.value;
            men++;
            return true;
        }

        private boolean readDebt(Tape tape) {
            if (!tape.needsNumber(0, men - 1)) {
                return false;
            }
            debtMan[debts] = tape.value;
            if (!tape.needsNumber(0, poems - 1)) {
                return false;
            }
            debtPoem[debts] = tape.value;
            if (!tape.needsNumber(0, 3)) {
                return false;
            }
            debtKind[debts] = tape.value;
            if (!tape.needsNumber(0, 40)) {
                return false;
            }
            debtDue[debts] = tape.value;
            debts++;
            return true;
        }

        private boolean readFade(Tape tape) {
            if (!tape.needsNumber(0, 9)) {
                return false;
            }
            fade = tape.value;
            return true;
        }

        boolean areMen(int bits) {
            return bits >>> men == 0;
        }

        int debtsOfMan(int man) {
            int bits = 0;
            for (int debt = 0; debt < debts; debt++) {
                if (debtMan[debt] == man) {
                    bits |= 1 << debt;
                }
            }
            return bits;
        }

        int debtsByPoem(int poem) {
            int bits = 0;
            for (int debt = 0; debt < debts; debt++) {
                if (debtPoem[debt] == poem) {
                    bits |= 1 << debt;
                }
            }
            return bits;
        }

        /** How many lines of a poem fade in a week in which it was not learnt. */
        int fadedLines(int poem) {
            return fade == 0 ? 0 : hard[poem] / fade;
        }
    }

    // ---- the law, kept as a row of words for a stack ----

    private static final class Law {
        private static final int LONGEST = 160;
        private static final int DEEPEST = 40;
        private static final int MOST_OPEN = 6;
        private static final int MOST_LEARNT = 20;

        // words: numbers as they are, then facts, then what is done with the two on top
        private static final int FACTS_FROM = 1000;
        private static final int LINES = 0;
        private static final int HARD = 1;
        private static final int KNOWN = 2;
        private static final int ROOM = 3;
        private static final int AGE = 4;
        private static final int LESSONS = 5;
        private static final int WEEK = 6;
        private static final int MAN = 7;
        private static final int FACTS = 8;
        private static final int DEEDS_FROM = 2000;
        private static final int PLUS = 2000;
        private static final int MINUS = 2001;
        private static final int TIMES = 2002;
        private static final int BY = 2003;
        private static final int LEFT = 2004;
        private static final int LEAST = 2005;
        private static final int MOST = 2006;

        private final int[] words = new int[LONGEST];
        private int size;
        private final int[] facts = new int[FACTS];
        private final int[] stack = new int[DEEPEST];

        Law() {
            makePlain();
        }

        /** 9 - hard */
        void makePlain() {
            size = 0;
            put(9);
            put(FACTS_FROM + HARD);
            put(MINUS);
        }

        void copyFrom(Law other) {
            System.arraycopy(other.words, 0, words, 0, LONGEST);
            size = other.size;
        }

        private boolean put(int word) {
            if (size >= LONGEST) {
                return false;
            }
            words[size] = word;
            size++;
            return true;
        }

        boolean readFrom(Tape tape) {
            size = 0;
            if (!readSum(tape, 0)) {
                return false;
            }
            return tape.ended() || tape.refuse(tape.place(), Tape.STRANGE);
        }

        private boolean readSum(Tape tape, int open) {
            if (!readProduct(tape, open)) {
                return false;
            }
            for (int i = 0; i < LONGEST; i++) {
                int deed = tape.takes('+') ? PLUS : tape.takes('-') ? MINUS : 0;
                if (deed == 0) {
                    return true;
                }
                if (!readProduct(tape, open) || !put(deed)) {
                    return false;
                }
            }
            return false;
        }

        private boolean readProduct(Tape tape, int open) {
            if (!readUnit(tape, open)) {
                return false;
            }
            for (int i = 0; i < LONGEST; i++) {
                int deed = tape.takes('*') ? TIMES : tape.takes('/') ? BY : tape.takes('%') ? LEFT : 0;
                if (deed == 0) {
                    return true;
                }
                if (!readUnit(tape, open) || !put(deed)) {
                    return false;
                }
            }
            return false;
        }

        private boolean readUnit(Tape tape, int open) {
            if (tape.seesDigit()) {
                return tape.needsNumber(0, 999) && put(tape.value);
            }
            if (tape.sees('(')) {
                if (open >= MOST_OPEN) {
                    return tape.refuse(tape.place(), Tape.TOO_MANY);
                }
                return tape.needs('(') && readSum(tape, open + 1) && tape.needs(')');
            }
            tape.takeWord();
            if (tape.isWord("least")) {
                return readPair(tape, open, LEAST);
            }
            if (tape.isWord("most")) {
                return readPair(tape, open, MOST);
            }
            int fact = factNamed(tape);
            if (fact == NONE) {
                return tape.refuseWord(Tape.STRANGE);
            }
            return put(FACTS_FROM + fact);
        }

        private boolean readPair(Tape tape, int open, int deed) {
            if (open >= MOST_OPEN) {
                return tape.refuseWord(Tape.TOO_MANY);
            }
            return tape.needs('[') && readSum(tape, open + 1)
                    && tape.needs(',') && readSum(tape, open + 1)
                    && tape.needs(']') && put(deed);
        }

        private static int factNamed(Tape tape) {
            if (tape.isWord("lines")) {
                return LINES;
            }
            if (tape.isWord("hard")) {
                return HARD;
            }
            if (tape.isWord("known")) {
                return KNOWN;
            }
            if (tape.isWord("room")) {
                return ROOM;
            }
            if (tape.isWord("age")) {
                return AGE;
            }
            if (tape.isWord("lessons")) {
                return LESSONS;
            }
            if (tape.isWord("week")) {
                return WEEK;
            }
            return tape.isWord("man") ? MAN : NONE;
        }

        void tellPoem(int lines, int hard, int known) {
            facts[LINES] = lines;
            facts[HARD] = hard;
            facts[KNOWN] = known;
        }

        void tellMan(int room, int age, int lessons, int week, int man) {
            facts[ROOM] = room;
            facts[AGE] = age;
            facts[LESSONS] = lessons;
            facts[WEEK] = week;
            facts[MAN] = man;
        }

        /** How many lines a lesson gives by the facts told. */
        int outcome() {
            int top = 0;
            for (int i = 0; i < size; i++) {
                int word = words[i];
                if (word >= DEEDS_FROM) {
                    if (top < 2) {
                        return 0;
                    }
                    top--;
                    stack[top - 1] = joined(word, stack[top - 1], stack[top]);
                } else {
                    if (top >= DEEPEST) {
                        return 0;
                    }
                    stack[top] = word < FACTS_FROM ? word : facts[word - FACTS_FROM];
                    top++;
                }
            }
            int lines = stack[0];
            return lines < 0 ? 0 : lines > MOST_LEARNT ? MOST_LEARNT : lines;
        }

        private static int joined(int deed, int a, int b) {
            switch (deed) {
                case PLUS: return a + b;
                case MINUS: return a - b;
                case TIMES: return a * b;
                case BY: return b == 0 ? 0 : a / b;
                case LEFT: return b == 0 ? 0 : a % b;
                case LEAST: return a < b ? a : b;
                default: return a > b ? a : b;
            }
        }
    }

    // ---- all that work changes ----

    private static final class State {
        private static final int KNOWN = 0;
        private static final int LESSONS = KNOWN + Valley.MOST_MEN * Valley.MOST_POEMS;
        private static final int WEEK_LESSONS = LESSONS + Valley.MOST_MEN;
        private static final int SLIPS = WEEK_LESSONS + Valley.MOST_MEN;
        private static final int FRESH = SLIPS + Valley.MOST_MEN;
        private static final int PAID = FRESH + Valley.MOST_MEN;
        private static final int WEEK = PAID + 1;
        static final int CELLS = WEEK + 1;

        private static final int LAST_WEEK = 400;
        private static final int OLD_AGE = 60;
        private static final int SLIPPED_LINES = 4;
        private static final int NO_LESSONS_HELP = 41;

        // one row, so that a state is kept and brought back by one copy
        final int[] cells = new int[CELLS];
        private final Valley valley;
        private final Law law;

        State(Valley valley, Law law) {
            this.valley = valley;
            this.law = law;
        }

        void clear() {
            for (int i = 0; i < CELLS; i++) {
                cells[i] = 0;
            }
        }

        void copyFrom(State other) {
            System.arraycopy(other.cells, 0, cells, 0, CELLS);
        }

        private static int place(int man, int poem) {
            return KNOWN + man * Valley.MOST_POEMS + poem;
        }

        int week() {
            return cells[WEEK];
        }

        int linesKnown(int man, int poem) {
            return cells[place(man, poem)];
        }

        int linesOf(int man) {
            int sum = 0;
            for (int poem = 0; poem < valley.poems; poem++) {
                sum += cells[place(man, poem)];
            }
            return sum;
        }

        int everyLine() {
            int sum = 0;
            for (int man = 0; man < valley.men; man++) {
                sum += linesOf(man);
            }
            return sum;
        }

        int lessonsOf(int man) {
            return cells[LESSONS + man];
        }

        int allLessons() {
            int sum = 0;
            for (int man = 0; man < valley.men; man++) {
                sum += cells[LESSONS + man];
            }
            return sum;
        }

        int weekLessonsOf(int man) {
            return cells[WEEK_LESSONS + man];
        }

        int slipsOf(int man) {
            return cells[SLIPS + man];
        }

        int allSlips() {
            int sum = 0;
            for (int man = 0; man < valley.men; man++) {
                sum += cells[SLIPS + man];
            }
            return sum;
        }

        int freshBitsOf(int man) {
            return cells[FRESH + man];
        }

        int paidBits() {
            return cells[PAID];
        }

        boolean isPaid(int debt) {
            return (cells[PAID] >> debt & 1) == 1;
        }

        int lateBits() {
            int bits = 0;
            for (int debt = 0; debt < valley.debts; debt++) {
                if (!isPaid(debt) && cells[WEEK] > valley.debtDue[debt]) {
                    bits |= 1 << debt;
                }
            }
            return bits;
        }

        /** Ages grow by the weeks alone, so they need no cells. */
        int ageOf(int man) {
            return valley.age[man] + cells[WEEK] / 10;
        }

        /** Old is who became 60 here, not who was told so. */
        boolean isOld(int man) {
            int told = valley.age[man];
            return told < OLD_AGE && told + cells[WEEK] / 10 >= OLD_AGE;
        }

        int oldBits() {
            int bits = 0;
            for (int man = 0; man < valley.men; man++) {
                if (isOld(man)) {
                    bits |= 1 << man;
                }
            }
            return bits;
        }

        int memoryOf(int man) {
            return isOld(man) ? valley.memory[man] / 2 : valley.memory[man];
        }

        int roomOf(int man) {
            int room = memoryOf(man) - linesOf(man);
            return room < 0 ? 0 : room;
        }

        int whoKnowAll(int poem) {
            int bits = 0;
            for (int man = 0; man < valley.men; man++) {
                if (knowsAll(man, poem)) {
                    bits |= 1 << man;
                }
            }
            return bits;
        }

        boolean knowsAll(int man, int poem) {
            return cells[place(man, poem)] >= valley.lines[poem];
        }

        boolean isWellKnown(int debt) {
            int man = valley.debtMan[debt];
            int poem = valley.debtPoem[debt];
            int known = cells[place(man, poem)];
            int lines = valley.lines[poem];
            int fromTheMiddle = lines / 2 + 1 < lines ? lines / 2 + 1 : lines;
            switch (valley.debtKind[debt]) {
                case 0: return known >= lines;
                case 2: return known >= lines && cells[WEEK_LESSONS + man] > 0;
                // a lullaby, too: who could weep through it knows it from the middle on
                default: return known >= fromTheMiddle;
            }
        }

        boolean isSungBy(int debt, int partner) {
            int poem = valley.debtPoem[debt];
            int both = cells[place(valley.debtMan[debt], poem)] + cells[place(partner, poem)];
            return both >= valley.lines[poem];
        }

        int needOf(int debt) {
            int man = valley.debtMan[debt];
            int poem = valley.debtPoem[debt];
            int missing = valley.lines[poem] - cells[place(man, poem)];
            if (missing <= 0) {
                return 0;
            }
            int aLesson = learnable(man, poem, roomOf(man));
            return aLesson <= 0 ? NO_LESSONS_HELP : (missing + aLesson - 1) / aLesson;
        }

        /** What the law gives, whether there is room for it or not. */
        int learnable(int man, int poem, int room) {
            law.tellPoem(valley.lines[poem], valley.hard[poem], cells[place(man, poem)]);
            law.tellMan(room, ageOf(man), cells[LESSONS + man], cells[WEEK], man);
            return law.outcome();
        }

        int gainOf(int man, int poem) {
            int room = roomOf(man);
            int gain = learnable(man, poem, room);
            int missing = valley.lines[poem] - cells[place(man, poem)];
            gain = gain < room ? gain : room;
            return gain < missing ? gain : missing;
        }

        // steps answer whether they could be done

        boolean teach(int man, int poem) {
            int gain = gainOf(man, poem);
            if (gain <= 0) {
                return false;
            }
            cells[place(man, poem)] += gain;
            cells[LESSONS + man]++;
            cells[WEEK_LESSONS + man]++;
            cells[FRESH + man] |= 1 << poem;
            return true;
        }

        boolean letGo(int man, int poem) {
            if (cells[place(man, poem)] == 0) {
                return false;
            }
            cells[place(man, poem)] = 0;
            return true;
        }

        boolean sayAlone(int debt) {
            if (isPaid(debt)) {
                return false;
            }
            if (isWellKnown(debt)) {
                cells[PAID] |= 1 << debt;
            } else {
                slip(valley.debtMan[debt], valley.debtPoem[debt]);
            }
            return true;
        }

        boolean sayWith(int debt, int partner) {
            if (isPaid(debt) || partner == valley.debtMan[debt]) {
                return false;
            }
            if (isSungBy(debt, partner)) {
                cells[PAID] |= 1 << debt;
            } else {
                slip(valley.debtMan[debt], valley.debtPoem[debt]);
                slip(partner, valley.debtPoem[debt]);
            }
            return true;
        }

        private void slip(int man, int poem) {
            lose(man, poem, SLIPPED_LINES);
            cells[SLIPS + man]++;
        }

        private void lose(int man, int poem, int lines) {
            int left = cells[place(man, poem)] - lines;
            cells[place(man, poem)] = left < 0 ? 0 : left;
        }

        boolean endWeekOfWork() {
            if (cells[WEEK] >= LAST_WEEK) {
                return false;
            }
            endWeek(0, valley.men);
            return true;
        }

        /** The week ends; only what the men of this range know is kept true. */
        void endWeek(int firstMan, int behindMan) {
            cells[WEEK]++;
            boolean isTenth = cells[WEEK] % 10 == 0;
            for (int man = firstMan; man < behindMan; man++) {
                boolean becomesOld = isTenth && ageOf(man) == OLD_AGE;
                int row = place(man, 0);
                int fresh = cells[FRESH + man];
                for (int poem = 0; poem < valley.poems; poem++) {
                    if (cells[row + poem] > 0) {
                        if (becomesOld) {
                            cells[row + poem] = 0;
                        } else if ((fresh >> poem & 1) == 0) {
                            lose(man, poem, valley.fadedLines(poem));
                        }
                    }
                }
                cells[FRESH + man] = 0;
                cells[WEEK_LESSONS + man] = 0;
            }
        }
    }

    // ---- work ----

    private static final class Work {
        private static final int LONGEST = 64;
        private static final int MOST_BEGUN = 200;
        private static final int MOST_OPEN = 6;
        private static final int LEARN = 0;
        private static final int FORGET = 1;
        private static final int SAY = 2;
        private static final int DUET = 3;
        private static final int WEEK = 4;
        private static final int AGAIN = 5;

        private final int[] kinds = new int[LONGEST];
        private final int[] firsts = new int[LONGEST];
        private final int[] seconds = new int[LONGEST];
        int size;
        private int begun;
        int done;
        int refused;

        boolean readFrom(Tape tape, Valley valley) {
            size = 0;
            begun = 0;
            done = 0;
            refused = 0;
            return readSteps(tape, valley, 0);
        }

        private boolean readSteps(Tape tape, Valley valley, int open) {
            for (int i = 0; i <= LONGEST; i++) {
                if (open > 0 ? tape.sees(']') : tape.ended()) {
                    return true;
                }
                if (!readStep(tape, valley, open) || !tape.needs(';')) {
                    return false;
                }
            }
            return false;
        }

        private boolean readStep(Tape tape, Valley valley, int open) {
            tape.takeWord();
            if (tape.isWord("learn")) {
                return readNumbers(tape, LEARN, valley.men, valley.poems);
            }
            if (tape.isWord("forget")) {
                return readNumbers(tape, FORGET, valley.men, valley.poems);
            }
            if (tape.isWord("say")) {
                return tape.needsNumber(0, valley.debts - 1) && put(SAY, tape.value, 0);
            }
            if (tape.isWord("duet")) {
                return readNumbers(tape, DUET, valley.debts, valley.men);
            }
            if (tape.isWord("week")) {
                return put(WEEK, 0, 0);
            }
            if (tape.isWord("again")) {
                return open >= MOST_OPEN ? tape.refuseWord(Tape.TOO_MANY) : readAgain(tape, valley, open);
            }
            return tape.refuseWord(Tape.STRANGE);
        }

        private boolean readNumbers(Tape tape, int kind, int firstBelow, int secondBelow) {
            if (!tape.needsNumber(0, firstBelow - 1)) {
                return false;
            }
            int first = tape.value;
            return tape.needsNumber(0, secondBelow - 1) && put(kind, first, tape.value);
        }

        /** An again keeps how often, and the place behind its last step. */
        private boolean readAgain(Tape tape, Valley valley, int open) {
            int place = size;
            if (!tape.needsNumber(0, 40) || !put(AGAIN, tape.value, 0)) {
                return false;
            }
            if (!tape.needs('[') || !readSteps(tape, valley, open + 1) || !tape.needs(']')) {
                return false;
            }
            seconds[place] = size;
            return true;
        }

        private boolean put(int kind, int first, int second) {
            if (size >= LONGEST) {
                return false;
            }
            kinds[size] = kind;
            firsts[size] = first;
            seconds[size] = second;
            size++;
            return true;
        }

        /** Does the steps of one block; how far that went stands in begun, done and refused. */
        private void doSteps(State state, int from, int behind, int open) {
            int resume = from;
            for (int at = from; at < behind; at++) {
                if (at < resume || begun >= MOST_BEGUN) {
                    continue;
                }
                begun++;
                if (kinds[at] == AGAIN) {
                    resume = seconds[at];
                    doAgain(state, at, open);
                } else if (doStep(state, at)) {
                    done++;
                } else {
                    refused++;
                }
            }
        }

        private void doAgain(State state, int at, int open) {
            if (open >= MOST_OPEN) {
                return;
            }
            for (int round = 0; round < firsts[at] && begun < MOST_BEGUN; round++) {
                doSteps(state, at + 1, seconds[at], open + 1);
            }
        }

        private boolean doStep(State state, int at) {
            int first = firsts[at];
            int second = seconds[at];
            switch (kinds[at]) {
                case LEARN: return state.teach(first, second);
                case FORGET: return state.letGo(first, second);
                case SAY: return state.sayAlone(first);
                case DUET: return state.sayWith(first, second);
                default: return state.endWeekOfWork();
            }
        }
    }

    // ---- the book ----

    private static final class Book {
        private static final int MOST_LINES = 6;

        int lines;
        private final int[] men = new int[MOST_LINES];
        private final int[] poems = new int[MOST_LINES];
        private final int[] numbers = new int[MOST_LINES];

        void copyFrom(Book other) {
            lines = other.lines;
            System.arraycopy(other.men, 0, men, 0, MOST_LINES);
            System.arraycopy(other.poems, 0, poems, 0, MOST_LINES);
            System.arraycopy(other.numbers, 0, numbers, 0, MOST_LINES);
        }

        boolean readFrom(Tape tape, Valley valley) {
            lines = 0;
            for (int i = 0; i <= MOST_LINES; i++) {
                if (tape.ended()) {
                    return true;
                }
                if (!readLine(tape, valley) || !tape.needs(';')) {
                    return false;
                }
            }
            return false;
        }

        private boolean readLine(Tape tape, Valley valley) {
            int start = tape.place();
            if (!tape.needsNumber(0, valley.men - 1)) {
                return false;
            }
            // only behind the look at its first number: of faults at one place the least counts
            if (lines >= MOST_LINES) {
                return tape.refuse(start, Tape.TOO_MANY);
            }
            men[lines] = tape.value;
            if (!tape.needsNumber(0, valley.poems - 1)) {
                return false;
            }
            poems[lines] = tape.value;
            if (!tape.needsNumber(0, 99)) {
                return false;
            }
            numbers[lines] = tape.value;
            lines++;
            return true;
        }

        boolean tells(int man, int poem) {
            for (int line = 0; line < lines; line++) {
                if (men[line] == man && poems[line] == poem) {
                    return true;
                }
            }
            return false;
        }

        /** Whether all lines are right, had this man had a lesson of this poem now. */
        boolean agrees(State state, int man, int poem) {
            for (int line = 0; line < lines; line++) {
                int known = state.linesKnown(men[line], poems[line]);
                if (men[line] == man && poems[line] == poem) {
                    known += state.gainOf(man, poem);
                }
                if (known != numbers[line]) {
                    return false;
                }
            }
            return true;
        }
    }

    // ---- states kept: one ahead of each work, and images with the works that lie under them ----

    private static final class Shelf {
        static final int MOST_WORKS = 16;
        private static final int MOST_IMAGES = 3;
        private static final int IMAGE_CELLS = (1 + MOST_WORKS) * State.CELLS;

        int works;
        int images;
        private final int[] workCells = new int[MOST_WORKS * State.CELLS];
        private final int[] imageCells = new int[MOST_IMAGES * IMAGE_CELLS];
        private final int[] imageWorks = new int[MOST_IMAGES];

        void clear() {
            works = 0;
            images = 0;
        }

        boolean pushWork(State state) {
            if (works >= MOST_WORKS) {
                return false;
            }
            System.arraycopy(state.cells, 0, workCells, works * State.CELLS, State.CELLS);
            works++;
            return true;
        }

        boolean popWork(State state) {
            if (works <= 0) {
                return false;
            }
            works--;
            System.arraycopy(workCells, works * State.CELLS, state.cells, 0, State.CELLS);
            return true;
        }

        boolean pushImage(State state) {
            if (images >= MOST_IMAGES) {
                return false;
            }
            int place = images * IMAGE_CELLS;
            System.arraycopy(state.cells, 0, imageCells, place, State.CELLS);
            System.arraycopy(workCells, 0, imageCells, place + State.CELLS, works * State.CELLS);
            imageWorks[images] = works;
            images++;
            return true;
        }

        boolean popImage(State state) {
            if (images <= 0) {
                return false;
            }
            images--;
            works = imageWorks[images];
            int place = images * IMAGE_CELLS;
            System.arraycopy(imageCells, place, state.cells, 0, State.CELLS);
            System.arraycopy(imageCells, place + State.CELLS, workCells, 0, works * State.CELLS);
            return true;
        }
    }

    // ---- weeks that are only asked, on a state of their own ----

    private static final class Outlook {
        static final int NEVER = 41;
        private static final int MOST_LESSONS = 40;

        private final Valley valley;
        private final State now;
        private final State then;
        private int seed;

        Outlook(Valley valley, State now, State then) {
            this.valley = valley;
            this.now = now;
            this.then = then;
        }

        State afterWeeks(int weeks) {
            then.copyFrom(now);
            for (int week = 0; week < weeks; week++) {
                then.endWeek(0, valley.men);
            }
            return then;
        }

        int lessonsFor(int man, int poem) {
            then.copyFrom(now);
            for (int lessons = 0; lessons <= MOST_LESSONS; lessons++) {
                if (then.knowsAll(man, poem)) {
                    return lessons;
                }
                // the week ends ahead of each lesson but the first
                if (lessons > 0) {
                    then.endWeek(man, man + 1);
                }
                then.teach(man, poem);
            }
            return NEVER;
        }

        int hardestFor(int man) {
            int first = NONE;
            int most = NONE;
            for (int poem = 0; poem < valley.poems; poem++) {
                int lessons = lessonsFor(man, poem);
                if (lessons > most) {
                    first = poem;
                    most = lessons;
                }
            }
            return first;
        }

        State afterSeason(int firstSeed, int q, int weeks) {
            then.copyFrom(now);
            seed = firstSeed;
            for (int week = 0; week < weeks; week++) {
                if (valley.men > 0 && valley.poems > 0) {
                    liveWeek(q);
                }
                then.endWeek(0, valley.men);
            }
            return then;
        }

        private void liveWeek(int q) {
            int man = draw(valley.men);
            int poem = draw(valley.poems);
            then.teach(man, poem);
            if (draw(16) < q && valley.debts > 0) {
                then.sayAlone(draw(valley.debts));
            }
        }

        private int draw(int many) {
            seed = seed * 1103515245 + 12345;
            int bits = seed >>> 16 & 32767;
            return many <= 0 ? 0 : bits % many;
        }
    }

    // ---- which debts a man would best pay ----

    private static final class PayChoice {
        private final Valley valley;
        private final State now;
        private final int[] byDue = new int[Valley.MOST_DEBTS];
        private final int[] needs = new int[Valley.MOST_DEBTS];
        private int many;

        PayChoice(Valley valley, State now) {
            this.valley = valley;
            this.now = now;
        }

        int chosenFor(int man) {
            int open = valley.debtsOfMan(man) & ~now.paidBits();
            sortByDue(open);
            int chosen = 0;
            for (int set = 1; set <= open; set++) {
                if ((set & ~open) == 0 && isBetter(set, chosen) && hasMemory(man, set) && isInTime(set)) {
                    chosen = set;
                }
            }
            return chosen;
        }

        private void sortByDue(int open) {
            many = 0;
            for (int debt = 0; debt < valley.debts; debt++) {
                if ((open >> debt & 1) == 1) {
                    needs[debt] = now.needOf(debt);
                    int place = many;
                    while (place > 0 && valley.debtDue[byDue[place - 1]] > valley.debtDue[debt]) {
                        byDue[place] = byDue[place - 1];
                        place--;
                    }
                    byDue[place] = debt;
                    many++;
                }
            }
        }

        /** Sets come by rising bits, so among alike ones the one that is chosen already has the least. */
        private boolean isBetter(int set, int chosen) {
            int more = Integer.bitCount(set) - Integer.bitCount(chosen);
            return more > 0 || more == 0 && linesOfEach(set) > linesOfEach(chosen);
        }

        private int linesOfEach(int set) {
            int lines = 0;
            for (int i = 0; i < many; i++) {
                if ((set >> byDue[i] & 1) == 1) {
                    lines += valley.lines[valley.debtPoem[byDue[i]]];
                }
            }
            return lines;
        }

        private boolean hasMemory(int man, int set) {
            int lines = 0;
            int seen = 0;
            for (int i = 0; i < many; i++) {
                int poem = valley.debtPoem[byDue[i]];
                if ((set >> byDue[i] & 1) == 1 && (seen >> poem & 1) == 0) {
                    seen |= 1 << poem;
                    lines += valley.lines[poem];
                }
            }
            return lines <= now.memoryOf(man);
        }

        private boolean isInTime(int set) {
            int lessons = 0;
            for (int i = 0; i < many; i++) {
                int debt = byDue[i];
                if ((set >> debt & 1) == 1) {
                    lessons += needs[debt];
                    if (lessons > valley.debtDue[debt] - now.week()) {
                        return false;
                    }
                }
            }
            return true;
        }
    }
}
