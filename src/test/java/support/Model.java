import java.math.BigInteger;
import java.nio.charset.StandardCharsets;
import java.util.ArrayDeque;
import java.util.ArrayList;
import java.util.Arrays;
import java.util.Comparator;
import java.util.Deque;
import java.util.List;
import java.util.NoSuchElementException;

/** The document told a second time, as slowly and as literally as it can be, to hold the class against. */
final class Model {

    // ---- texts ----

    static final class Fault extends Exception {
        final int kind;
        final int place;

        Fault(int kind, int place) {
            this.kind = kind;
            this.place = place;
        }
    }

    /** All tokens of a text: a number, a word, or one other byte; the last one is the end. */
    static final class Token {
        final char sort;
        final String text;
        final int place;

        Token(char sort, String text, int place) {
            this.sort = sort;
            this.text = text;
            this.place = place;
        }

        boolean is(String wanted) {
            return sort != 'e' && text.equals(wanted);
        }
    }

    static final class Tokens {
        final List<Token> all = new ArrayList<>();
        int at = 0;

        Tokens(String text) {
            int i = 0;
            while (i < text.length()) {
                char c = text.charAt(i);
                int j = i + 1;
                if (c == ' ') {
                    i++;
                    continue;
                }
                char sort = 's';
                if (c >= '0' && c <= '9') {
                    sort = 'n';
                    while (j < text.length() && text.charAt(j) >= '0' && text.charAt(j) <= '9') j++;
                } else if (c >= 'a' && c <= 'z') {
                    sort = 'w';
                    while (j < text.length() && text.charAt(j) >= 'a' && text.charAt(j) <= 'z') j++;
                }
                all.add(new Token(sort, text.substring(i, j), i));
                i = j;
            }
            all.add(new Token('e', "", text.length()));
        }

        Token peek() {
            return all.get(at);
        }

        Token take() {
            return all.get(at++);
        }

        void sign(String sign) throws Fault {
            Token t = peek();
            if (!t.is(sign)) throw new Fault(1, t.place);
            at++;
        }

        int number(int least, int most) throws Fault {
            Token t = peek();
            if (t.sort != 'n') throw new Fault(1, t.place);
            BigInteger value = new BigInteger(t.text);
            if (value.compareTo(BigInteger.valueOf(least)) < 0 || value.compareTo(BigInteger.valueOf(most)) > 0) {
                throw new Fault(2, t.place);
            }
            at++;
            return value.intValue();
        }
    }

    record Poem(int lines, int hard) { }

    record Man(int memory, int age) { }

    record Debt(int man, int poem, int kind, int due) { }

    record Line(int man, int poem, int lines) { }

    static final class Land {
        final List<Poem> poems = new ArrayList<>();
        final List<Man> men = new ArrayList<>();
        final List<Debt> debts = new ArrayList<>();
        int fade = 3;
    }

    static Land readLand(String text) throws Fault {
        Land land = new Land();
        Tokens t = new Tokens(text);
        int clauses = 0;
        while (t.peek().sort != 'e') {
            Token w = t.take();
            if (!List.of("poem", "man", "debt", "fade").contains(w.text)) throw new Fault(1, w.place);
            if (clauses == 60) throw new Fault(3, w.place);
            clauses++;
            if (w.text.equals("poem")) {
                if (land.poems.size() == 8) throw new Fault(3, w.place);
                land.poems.add(new Poem(t.number(1, 40), t.number(0, 9)));
            } else if (w.text.equals("man")) {
                if (land.men.size() == 6) throw new Fault(3, w.place);
                land.men.add(new Man(t.number(1, 99), t.number(10, 70)));
            } else if (w.text.equals("debt")) {
                if (land.debts.size() == 10) throw new Fault(3, w.place);
                int a = t.number(0, land.men.size() - 1);
                int p = t.number(0, land.poems.size() - 1);
                land.debts.add(new Debt(a, p, t.number(0, 3), t.number(0, 40)));
            } else {
                land.fade = t.number(0, 9);
            }
            t.sign(";");
        }
        return land;
    }

    interface Rule {
        int value(int[] facts);
    }

    static final List<String> FACTS = List.of("lines", "hard", "known", "room", "age", "lessons", "week", "man");

    static Rule readRule(String text) throws Fault {
        Tokens t = new Tokens(text);
        Rule rule = sum(t, 0);
        if (t.peek().sort != 'e') throw new Fault(1, t.peek().place);
        return rule;
    }

    static Rule sum(Tokens t, int open) throws Fault {
        Rule left = product(t, open);
        while (t.peek().is("+") || t.peek().is("-")) {
            boolean plus = t.take().text.equals("+");
            Rule a = left;
            Rule b = product(t, open);
            left = plus ? f -> a.value(f) + b.value(f) : f -> a.value(f) - b.value(f);
        }
        return left;
    }

    static Rule product(Tokens t, int open) throws Fault {
        Rule left = unit(t, open);
        while (t.peek().is("*") || t.peek().is("/") || t.peek().is("%")) {
            String sign = t.take().text;
            Rule a = left;
            Rule b = unit(t, open);
            if (sign.equals("*")) {
                left = f -> (int) ((long) a.value(f) * (long) b.value(f));
            } else if (sign.equals("/")) {
                left = f -> b.value(f) == 0 ? 0 : (int) ((long) a.value(f) / (long) b.value(f));
            } else {
                left = f -> b.value(f) == 0 ? 0 : (int) ((long) a.value(f) % (long) b.value(f));
            }
        }
        return left;
    }

    static Rule unit(Tokens t, int open) throws Fault {
        Token k = t.peek();
        if (k.sort == 'n') {
            int n = t.number(0, 999);
            return f -> n;
        }
        boolean opens = k.is("(") || k.is("least") || k.is("most");
        if (opens && open == 6) throw new Fault(3, k.place);
        if (k.is("(")) {
            t.take();
            Rule inner = sum(t, open + 1);
            t.sign(")");
            return inner;
        }
        if (opens) {
            t.take();
            t.sign("[");
            Rule a = sum(t, open + 1);
            t.sign(",");
            Rule b = sum(t, open + 1);
            t.sign("]");
            return k.is("least") ? f -> Math.min(a.value(f), b.value(f)) : f -> Math.max(a.value(f), b.value(f));
        }
        int fact = k.sort == 'w' ? FACTS.indexOf(k.text) : -1;
        if (fact < 0) throw new Fault(1, k.place);
        t.take();
        return f -> f[fact];
    }

    static final class Step {
        final String word;
        final int a;
        final int b;
        final List<Step> inner;

        Step(String word, int a, int b, List<Step> inner) {
            this.word = word;
            this.a = a;
            this.b = b;
            this.inner = inner;
        }
    }

    static List<Step> readSteps(Tokens t, Land land, int open) throws Fault {
        List<Step> steps = new ArrayList<>();
        while (open == 0 ? t.peek().sort != 'e' : !t.peek().is("]")) {
            Token w = t.take();
            int men = land.men.size() - 1;
            int poems = land.poems.size() - 1;
            int debts = land.debts.size() - 1;
            switch (w.sort == 'w' ? w.text : "") {
                case "learn", "forget" -> steps.add(new Step(w.text, t.number(0, men), t.number(0, poems), null));
                case "say" -> steps.add(new Step(w.text, t.number(0, debts), 0, null));
                case "duet" -> steps.add(new Step(w.text, t.number(0, debts), t.number(0, men), null));
                case "week" -> steps.add(new Step(w.text, 0, 0, null));
                case "again" -> {
                    if (open == 6) throw new Fault(3, w.place);
                    int n = t.number(0, 40);
                    t.sign("[");
                    List<Step> inner = readSteps(t, land, open + 1);
                    t.sign("]");
                    steps.add(new Step(w.text, n, 0, inner));
                }
                default -> throw new Fault(1, w.place);
            }
            t.sign(";");
        }
        return steps;
    }

    static List<Line> readBook(String text, Land land) throws Fault {
        List<Line> lines = new ArrayList<>();
        Tokens t = new Tokens(text);
        while (t.peek().sort != 'e') {
            int place = t.peek().place;
            int a = t.number(0, land.men.size() - 1);
            if (lines.size() == 6) throw new Fault(3, place);
            lines.add(new Line(a, t.number(0, land.poems.size() - 1), t.number(0, 99)));
            t.sign(";");
        }
        return lines;
    }

    // ---- what goes on ----

    final class Life {
        int week;
        int[] age;
        boolean[] old;
        int[][] known;
        boolean[][] fresh;
        int[] lessons;
        int[] weekly;
        int[] slips;
        boolean[] paid;

        Life() {
            int men = land.men.size();
            int poems = land.poems.size();
            age = new int[men];
            for (int i = 0; i < men; i++) age[i] = land.men.get(i).age();
            old = new boolean[men];
            known = new int[men][poems];
            fresh = new boolean[men][poems];
            lessons = new int[men];
            weekly = new int[men];
            slips = new int[men];
            paid = new boolean[land.debts.size()];
        }

        Life copy() {
            Life c = new Life();
            c.week = week;
            c.age = age.clone();
            c.old = old.clone();
            for (int i = 0; i < known.length; i++) {
                c.known[i] = known[i].clone();
                c.fresh[i] = fresh[i].clone();
            }
            c.lessons = lessons.clone();
            c.weekly = weekly.clone();
            c.slips = slips.clone();
            c.paid = paid.clone();
            return c;
        }

        int linesOf(int man) {
            return Arrays.stream(known[man]).sum();
        }

        int everything() {
            int sum = 0;
            for (int i = 0; i < known.length; i++) sum += linesOf(i);
            return sum;
        }

        int memory(int man) {
            int m = land.men.get(man).memory();
            return old[man] ? m / 2 : m;
        }

        int room(int man) {
            return Math.max(0, memory(man) - linesOf(man));
        }

        int learns(int man, int poem) {
            Poem p = land.poems.get(poem);
            int[] facts = {p.lines(), p.hard(), known[man][poem], room(man), age[man], lessons[man], week, man};
            return clamp(rule.value(facts));
        }

        boolean well(Debt d, int kind) {
            int lines = land.poems.get(d.poem()).lines();
            int has = known[d.man()][d.poem()];
            return switch (kind) {
                case 0 -> has == lines;
                case 1 -> has >= Math.min(lines, lines / 2 + 1);
                case 2 -> well(d, 0) && weekly[d.man()] >= 1;
                default -> well(d, 1) || well(d, 2);
            };
        }

        int need(int debt) {
            Debt d = land.debts.get(debt);
            int missing = land.poems.get(d.poem()).lines() - known[d.man()][d.poem()];
            if (missing == 0) return 0;
            int each = learns(d.man(), d.poem());
            if (each == 0) return 41;
            int many = 0;
            while (many * each < missing) many++;
            return many;
        }

        int gain(int man, int poem) {
            Life c = copy();
            c.learn(man, poem);
            return c.known[man][poem] - known[man][poem];
        }

        boolean learn(int man, int poem) {
            int most = Math.min(learns(man, poem), room(man));
            int then = Math.min(land.poems.get(poem).lines(), known[man][poem] + most);
            if (then <= known[man][poem]) return false;
            known[man][poem] = then;
            lessons[man]++;
            weekly[man]++;
            fresh[man][poem] = true;
            return true;
        }

        boolean forget(int man, int poem) {
            boolean could = known[man][poem] > 0;
            known[man][poem] = 0;
            return could;
        }

        void slip(int man, int poem) {
            known[man][poem] = Math.max(0, known[man][poem] - 4);
            slips[man]++;
        }

        boolean say(int debt) {
            Debt d = land.debts.get(debt);
            if (paid[debt]) return false;
            if (well(d, d.kind())) {
                paid[debt] = true;
            } else {
                slip(d.man(), d.poem());
            }
            return true;
        }

        boolean duet(int debt, int man) {
            Debt d = land.debts.get(debt);
            if (paid[debt] || man == d.man()) return false;
            if (known[man][d.poem()] + known[d.man()][d.poem()] >= land.poems.get(d.poem()).lines()) {
                paid[debt] = true;
            } else {
                slip(d.man(), d.poem());
                slip(man, d.poem());
            }
            return true;
        }

        void endWeek() {
            for (int i = 0; i < known.length; i++) {
                for (int j = 0; j < known[i].length; j++) {
                    int less = land.fade == 0 ? 0 : land.poems.get(j).hard() / land.fade;
                    if (!fresh[i][j]) known[i][j] = Math.max(0, known[i][j] - less);
                    fresh[i][j] = false;
                }
                weekly[i] = 0;
            }
            week++;
            if (week % 10 != 0) return;
            for (int i = 0; i < known.length; i++) {
                age[i]++;
                if (age[i] == 60) {
                    old[i] = true;
                    Arrays.fill(known[i], 0);
                }
            }
        }

        boolean late(int debt) {
            return !paid[debt] && week > land.debts.get(debt).due();
        }

        int lateBits() {
            int bits = 0;
            for (int i = 0; i < paid.length; i++) if (late(i)) bits |= 1 << i;
            return bits;
        }

        int allSlips() {
            return Arrays.stream(slips).sum();
        }

        int allLessons() {
            return Arrays.stream(lessons).sum();
        }
    }

    static int clamp(int n) {
        return Math.max(0, Math.min(20, n));
    }

    static int bits(boolean[] row) {
        int bits = 0;
        for (int i = 0; i < row.length; i++) if (row[i]) bits |= 1 << i;
        return bits;
    }

    // ---- the object ----

    record Image(Life life, List<Life> works) { }

    private StringBuilder tape = new StringBuilder();
    private Land land = new Land();
    private Rule rule = f -> 9 - f[1];
    private List<Line> book = new ArrayList<>();
    private Life life = new Life();
    private List<Life> works = new ArrayList<>();
    private final Deque<Image> images = new ArrayDeque<>();
    private int fault = -1;
    private int refused = 0;
    private int done = 0;
    private int begun = 0;
    private int noSuch = 0;
    private int illegal = 0;
    private int seed;

    private void need(boolean holds) {
        if (!holds) {
            illegal++;
            throw new IllegalArgumentException();
        }
    }

    private void in(int n, int least, int most) {
        need(n >= least && n <= most);
    }

    private void thing(int n, int many) {
        if (n < 0 || n >= many) {
            noSuch++;
            throw new NoSuchElementException();
        }
    }

    private void man(int n) {
        thing(n, land.men.size());
    }

    private void poem(int n) {
        thing(n, land.poems.size());
    }

    private void debt(int n) {
        thing(n, land.debts.size());
    }

    private void menBits(int bits) {
        need(bits >= 0 && bits < 1 << land.men.size());
    }

    private String text(int n, int longest) {
        need(n >= 0 && n <= tape.length() && n <= longest);
        String text = tape.substring(0, n);
        tape = new StringBuilder();
        fault = -1;
        return text;
    }

    private int faulted(Fault f) {
        fault = f.place;
        return f.kind - 10;
    }

    long call(String name, int... a) {
        switch (name) {
            case "feed": return feed(a);
            case "valley": return valley(a[0]);
            case "law": return law(a[0]);
            case "work": return work(a[0]);
            case "book": return bookOf(a[0]);
            case "fault": return fault;
            case "undo": return undo();
            case "told": return told(a[0]);
            case "poem": return poemOf(a[0], a[1]);
            case "man": return manOf(a[0], a[1]);
            case "debt": return debtOf(a[0], a[1]);
            case "knows": man(a[0]); poem(a[1]); return life.known[a[0]][a[1]];
            case "learns": man(a[0]); poem(a[1]); return life.learns(a[0], a[1]);
            case "would": return would(a);
            case "ahead": return ahead(a[0], a[1]);
            case "lessons": man(a[0]); poem(a[1]); return lessons(a[0], a[1]);
            case "pays": man(a[0]); return pays(a[0]);
            case "hardest": man(a[0]); return hardest(a[0]);
            case "fits": return fits(a[0]);
            case "look": return look(a[0]);
            case "kept": return kept(a[0], a[1], a[2], a[3]);
            case "fair": return fair(a[0], a[1], a[2]);
            case "candles": return candles(a[0], a[1], a[2]);
            case "fullest": return fullest(a[0]);
            case "free": return free();
            case "partners": return partners(a[0]);
            case "fades": return fades(a[0], a[1]);
            case "next": return next(a[0]);
            case "gains": man(a[0]); poem(a[1]); return life.gain(a[0], a[1]);
            case "closest": return closest(a[0], a[1]);
            case "best": return best(a[0], a[1]);
            case "chorus": return chorus(a[0], a[1]);
            case "season": return season(a[0], a[1], a[2], a[3]);
            case "span": return span(a);
            case "image": return image();
            case "restore": return restore();
            case "status": return a[0] == 0 ? noSuch : a[0] == 1 ? illegal : -1;
            case "count": return a[0] == 0 ? images.size() : a[0] == 1 ? tape.length() : a[0] == 2 ? works.size() : -1;
            default: throw new IllegalStateException(name);
        }
    }

    private int feed(int[] a) {
        if (tape.length() + 20 > 600) return -1;
        for (int n : a) {
            byte[] four = BigInteger.valueOf((n & 0xffffffffL) | 1L << 40).toByteArray();
            tape.append(new String(four, four.length - 4, 4, StandardCharsets.ISO_8859_1));
        }
        return tape.length();
    }

    private int valley(int n) {
        String text = text(n, 600);
        try {
            land = readLand(text);
        } catch (Fault f) {
            return faulted(f);
        }
        rule = f -> 9 - f[1];
        book = new ArrayList<>();
        life = new Life();
        works = new ArrayList<>();
        images.clear();
        refused = 0;
        return land.debts.size();
    }

    private int law(int n) {
        String text = text(n, 150);
        try {
            rule = readRule(text);
        } catch (Fault f) {
            return faulted(f);
        }
        return 1;
    }

    private int work(int n) {
        String text = text(n, 150);
        if (works.size() == 16) return -20;
        List<Step> steps;
        try {
            steps = readSteps(new Tokens(text), land, 0);
        } catch (Fault f) {
            return faulted(f);
        }
        works.add(life.copy());
        refused = 0;
        done = 0;
        begun = 0;
        run(steps);
        return done;
    }

    private void run(List<Step> steps) {
        for (Step s : steps) {
            if (begun == 200) return;
            begun++;
            if (s.word.equals("again")) {
                for (int i = 0; i < s.a && begun < 200; i++) run(s.inner);
                continue;
            }
            boolean could = switch (s.word) {
                case "learn" -> life.learn(s.a, s.b);
                case "forget" -> life.forget(s.a, s.b);
                case "say" -> life.say(s.a);
                case "duet" -> life.duet(s.a, s.b);
                default -> life.week < 400;
            };
            if (s.word.equals("week") && could) life.endWeek();
            if (could) done++;
            else refused++;
        }
    }

    private int bookOf(int n) {
        String text = text(n, 60);
        try {
            book = readBook(text, land);
        } catch (Fault f) {
            return faulted(f);
        }
        return book.size();
    }

    private int undo() {
        if (works.isEmpty()) return -1;
        life = works.remove(works.size() - 1).copy();
        refused = 0;
        return works.size();
    }

    private int image() {
        if (images.size() == 3) return -1;
        images.push(new Image(life.copy(), new ArrayList<>(works)));
        return images.size();
    }

    private int restore() {
        if (images.isEmpty()) return -1;
        Image i = images.pop();
        life = i.life();
        works = i.works();
        refused = 0;
        return images.size();
    }

    private int told(int what) {
        in(what, 0, 11);
        return new int[] {land.poems.size(), land.men.size(), land.debts.size(), life.week, bits(life.paid),
            life.lateBits(), bits(life.old), life.allSlips(), life.everything(), book.size(), refused, land.fade}[what];
    }

    private int poemOf(int poem, int what) {
        poem(poem);
        in(what, 0, 3);
        Poem p = land.poems.get(poem);
        int who = 0;
        for (int i = 0; i < land.men.size(); i++) if (life.known[i][poem] == p.lines()) who |= 1 << i;
        int open = 0;
        for (int i = 0; i < land.debts.size(); i++) {
            if (land.debts.get(i).poem() == poem && !life.paid[i]) open |= 1 << i;
        }
        return new int[] {p.lines(), p.hard(), who, open}[what];
    }

    private int openOf(int man) {
        int open = 0;
        for (int i = 0; i < land.debts.size(); i++) {
            if (land.debts.get(i).man() == man && !life.paid[i]) open |= 1 << i;
        }
        return open;
    }

    private int manOf(int man, int what) {
        man(man);
        in(what, 0, 8);
        return new int[] {land.men.get(man).memory(), life.age[man], life.room(man), life.linesOf(man),
            life.lessons[man], life.weekly[man], life.slips[man], openOf(man), bits(life.fresh[man])}[what];
    }

    private int debtOf(int debt, int what) {
        debt(debt);
        in(what, 0, 6);
        Debt d = land.debts.get(debt);
        return new int[] {d.man(), d.poem(), d.kind(), d.due(), life.paid[debt] ? 1 : 0,
            life.well(d, d.kind()) ? 1 : 0, life.paid[debt] ? 0 : life.need(debt)}[what];
    }

    private int would(int[] a) {
        int[][] limits = {{1, 40}, {0, 9}, {0, 40}, {0, 99}, {10, 150}, {0, 999}, {0, 400}, {0, 5}};
        boolean ok = true;
        for (int i = 0; i < 8; i++) ok &= a[i] >= limits[i][0] && a[i] <= limits[i][1];
        need(ok);
        return clamp(rule.value(a));
    }

    private int ahead(int n, int what) {
        need(n >= 0 && n <= 99 && what >= 0 && what <= 2);
        Life c = life.copy();
        for (int i = 0; i < n; i++) c.endWeek();
        return what == 0 ? c.everything() : what == 1 ? c.lateBits() : bits(c.old);
    }

    private int lessons(int man, int poem) {
        Life c = life.copy();
        int all = land.poems.get(poem).lines();
        if (c.known[man][poem] == all) return 0;
        for (int i = 1; i <= 40; i++) {
            c.learn(man, poem);
            if (c.known[man][poem] == all) return i;
            c.endWeek();
        }
        return -1;
    }

    private int pays(int man) {
        List<Integer> mine = new ArrayList<>();
        for (int i = 0; i < land.debts.size(); i++) if ((openOf(man) >> i & 1) == 1) mine.add(i);
        int best = 0;
        int bestMany = 0;
        int bestLines = 0;
        for (int set = (1 << land.debts.size()) - 1; set >= 0; set--) {
            List<Integer> chosen = new ArrayList<>();
            for (int i = 0; i < land.debts.size(); i++) if ((set >> i & 1) == 1) chosen.add(i);
            if (!mine.containsAll(chosen)) continue;
            int memory = chosen.stream().map(i -> land.debts.get(i).poem()).distinct()
                .mapToInt(p -> land.poems.get(p).lines()).sum();
            if (memory > life.memory(man)) continue;
            chosen.sort(Comparator.<Integer>comparingInt(i -> land.debts.get(i).due()).thenComparingInt(i -> i));
            int sum = 0;
            boolean fine = true;
            for (int i : chosen) {
                sum += life.need(i);
                fine &= sum <= land.debts.get(i).due() - life.week;
            }
            if (!fine) continue;
            int lines = chosen.stream().mapToInt(i -> land.poems.get(land.debts.get(i).poem()).lines()).sum();
            if (chosen.size() > bestMany || chosen.size() == bestMany && lines >= bestLines) {
                best = set;
                bestMany = chosen.size();
                bestLines = lines;
            }
        }
        return best;
    }

    private int hardest(int man) {
        int best = -1;
        int most = -1;
        for (int i = 0; i < land.poems.size(); i++) {
            int n = lessons(man, i);
            if (n == -1) n = Integer.MAX_VALUE;
            if (best == -1 || n > most) {
                best = i;
                most = n;
            }
        }
        return best;
    }

    /** The lives by which all lines of the book are right, with their pairs. */
    private List<Object[]> fitting() {
        List<Object[]> fits = new ArrayList<>();
        for (int i = 0; i < land.men.size(); i++) {
            for (int j = 0; j < land.poems.size(); j++) {
                Life c = life.copy();
                c.learn(i, j);
                boolean right = true;
                for (Line l : book) right &= c.known[l.man()][l.poem()] == l.lines();
                if (right) fits.add(new Object[] {10 * i + j, c});
            }
        }
        return fits;
    }

    private int fits(int what) {
        in(what, 0, 1);
        List<Object[]> fits = fitting();
        if (what == 0) return fits.size();
        return fits.isEmpty() ? -1 : (Integer) fits.get(0)[0];
    }

    private int look(int what) {
        in(what, 0, 1);
        List<Object[]> fits = fitting();
        int best = -1;
        int least = -1;
        for (int i = 0; i < land.men.size(); i++) {
            for (int j = 0; j < land.poems.size(); j++) {
                int man = i;
                int poem = j;
                if (book.stream().anyMatch(l -> l.man() == man && l.poem() == poem)) continue;
                int worst = 0;
                for (int n = 0; n <= 40; n++) {
                    int left = 0;
                    for (Object[] f : fits) if (((Life) f[1]).known[i][j] == n) left++;
                    worst = Math.max(worst, left);
                }
                if (best == -1 || worst < least) {
                    best = 10 * i + j;
                    least = worst;
                }
            }
        }
        return what == 0 ? best : least;
    }

    private long kept(int n, int k, int q, int part) {
        need(n >= 0 && n <= 12 && k >= 0 && k <= 13 && q >= 0 && q <= 16 && part >= 0 && part <= 1);
        BigInteger above = BigInteger.ZERO;
        for (int set = 0; set < 1 << n; set++) {
            if (Integer.bitCount(set) < k) continue;
            int keeps = Integer.bitCount(set);
            above = above.add(BigInteger.valueOf(16 - q).pow(keeps).multiply(BigInteger.valueOf(q).pow(n - keeps)));
        }
        BigInteger below = BigInteger.valueOf(16).pow(n);
        BigInteger common = above.gcd(below);
        return (part == 0 ? above : below).divide(common).longValueExact();
    }

    private int fair(int v, int w, int what) {
        need(v >= 0 && v <= 99 && w >= 0 && w <= 99 && what >= 0 && what <= 2);
        int[][] one = {{v, 0}, {w, 0}};
        List<Integer> rests = new ArrayList<>();
        for (int i = 0; i < 2; i++) {
            for (int j = 0; j < 2; j++) {
                if (one[1 - i][j] <= one[i][j] && one[1 - j][i] <= one[j][i]) rests.add(10 * i + j);
            }
        }
        if (what == 0) return rests.size();
        if (rests.isEmpty()) return what == 1 ? -1 : 0;
        int first = rests.get(0);
        return what == 1 ? first : one[first / 10][first % 10] + one[first % 10][first / 10];
    }

    private int candles(int man, int men, int n) {
        man(man);
        menBits(men);
        in(n, 0, 999);
        if ((men >> man & 1) == 0) return 0;
        int bound = 0;
        for (int b = 0; b <= 1000; b++) {
            int given = 0;
            for (int i = 0; i < land.men.size(); i++) if ((men >> i & 1) == 1) given += Math.min(b, life.linesOf(i));
            if (given <= n) bound = b;
        }
        return Math.min(bound, life.linesOf(man));
    }

    private int fullest(int what) {
        in(what, 0, 1);
        int best = -1;
        for (int i = 0; i < land.men.size(); i++) if (best == -1 || life.linesOf(i) > life.linesOf(best)) best = i;
        return what == 0 || best == -1 ? best : life.linesOf(best);
    }

    private int free() {
        int bits = 0;
        for (int i = 0; i < land.men.size(); i++) if (openOf(i) == 0) bits |= 1 << i;
        return bits;
    }

    private int partners(int debt) {
        debt(debt);
        int bits = 0;
        for (int i = 0; i < land.men.size(); i++) {
            Life c = life.copy();
            c.duet(debt, i);
            if (c.paid[debt] && !life.paid[debt]) bits |= 1 << i;
        }
        return bits;
    }

    private int fades(int man, int poem) {
        man(man);
        poem(poem);
        Life c = life.copy();
        c.endWeek();
        return life.known[man][poem] - c.known[man][poem];
    }

    private int next(int what) {
        in(what, 0, 1);
        int best = -1;
        for (int i = 0; i < land.debts.size(); i++) {
            if (!life.paid[i] && (best == -1 || land.debts.get(i).due() < land.debts.get(best).due())) best = i;
        }
        return what == 0 || best == -1 ? best : land.debts.get(best).due();
    }

    private int closest(int man, int what) {
        man(man);
        in(what, 0, 1);
        int best = -1;
        for (int i = 0; i < land.debts.size(); i++) {
            if ((openOf(man) >> i & 1) == 1 && (best == -1 || life.need(i) < life.need(best))) best = i;
        }
        return what == 0 || best == -1 ? best : life.need(best);
    }

    private int best(int poem, int what) {
        poem(poem);
        in(what, 0, 1);
        int best = -1;
        for (int i = 0; i < land.men.size(); i++) {
            if (life.known[i][poem] > (best == -1 ? 0 : life.known[best][poem])) best = i;
        }
        return what == 0 || best == -1 ? best : life.known[best][poem];
    }

    private int chorus(int poem, int men) {
        poem(poem);
        menBits(men);
        int sum = 0;
        for (int i = 0; i < land.men.size(); i++) if ((men >> i & 1) == 1) sum += life.known[i][poem];
        return Math.min(sum, land.poems.get(poem).lines());
    }

    private int draw(int many) {
        BigInteger s = BigInteger.valueOf(seed & 0xffffffffL);
        seed = s.multiply(BigInteger.valueOf(1103515245)).add(BigInteger.valueOf(12345)).intValue();
        return (int) ((seed & 0x7fffffffL) / 65536 % many);
    }

    private Life play(int from, int q, int weeks) {
        Life c = life.copy();
        seed = from;
        for (int i = 0; i < weeks; i++) {
            if (!land.men.isEmpty() && !land.poems.isEmpty()) {
                int man = draw(land.men.size());
                c.learn(man, draw(land.poems.size()));
                boolean below = draw(16) < q;
                if (below && !land.debts.isEmpty()) c.say(draw(land.debts.size()));
            }
            c.endWeek();
        }
        return c;
    }

    private int season(int from, int q, int weeks, int what) {
        need(q >= 0 && q <= 16 && weeks >= 1 && weeks <= 48 && what >= 0 && what <= 3);
        Life c = play(from, q, weeks);
        return new int[] {bits(c.paid), c.everything(), c.allSlips() - life.allSlips(),
            c.allLessons() - life.allLessons()}[what];
    }

    private int span(int[] a) {
        need(a[1] >= 1 && a[1] <= 10 && a[2] >= 0 && a[2] <= 16 && a[3] >= 1 && a[3] <= 48
            && a[4] >= 0 && a[4] <= 2 && a[5] >= 0 && a[5] < land.debts.size());
        List<Integer> lines = new ArrayList<>();
        int paid = 0;
        for (int i = 0; i < a[1]; i++) {
            Life c = play(a[0] + i, a[2], a[3]);
            lines.add(c.everything());
            if (c.paid[a[5]]) paid++;
        }
        lines.sort(null);
        return a[4] == 0 ? lines.get(0) : a[4] == 1 ? lines.get(lines.size() - 1) : paid;
    }
}
