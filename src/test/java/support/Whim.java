import java.util.Random;

/** Texts and arguments by chance: mostly right ones, some at the edges, some spoilt. */
final class Whim {
    private static final String[] FACTS = {"lines", "hard", "known", "room", "age", "lessons", "week", "man"};
    private final Random chance;
    int men;
    int poems;
    int debts;

    Whim(long seed) {
        chance = new Random(seed);
    }

    int below(int n) {
        return chance.nextInt(n);
    }

    int within(int least, int most) {
        return least + chance.nextInt(most - least + 1);
    }

    /** A number that is mostly within, at times at an edge, seldom beyond. */
    int near(int least, int most) {
        int way = below(40);
        if (most < least || way == 0) return within(least - 2, least + 12);
        if (way == 1) return most + 1;
        if (way == 2) return least - 1;
        if (way == 3) return chance.nextInt();
        if (way < 8) return most;
        if (way < 12) return least;
        return within(least, most);
    }

    private String number(int least, int most) {
        int n = most < least ? below(3) : below(60) == 0 ? most + within(0, 2) : within(least, most);
        return (below(30) == 0 ? "0" : "") + Math.max(0, n);
    }

    private String gap() {
        return below(12) == 0 ? " ".repeat(within(1, 3)) : "";
    }

    String valley() {
        StringBuilder text = new StringBuilder();
        men = below(8) == 0 ? 0 : within(1, 6);
        poems = below(8) == 0 ? 0 : within(1, 8);
        debts = men == 0 || poems == 0 ? 0 : within(0, 10);
        boolean menFirst = below(2) == 0;
        if (menFirst) men(text);
        for (int i = 0; i < poems; i++) {
            text.append(gap()).append("poem ").append(number(1, below(2) == 0 ? 12 : 40)).append(' ')
                .append(number(0, 9)).append(gap()).append(';');
        }
        if (!menFirst) men(text);
        for (int i = 0; i < debts; i++) {
            text.append("debt ").append(number(0, men - 1)).append(' ').append(number(0, poems - 1)).append(' ')
                .append(number(0, 3)).append(' ').append(number(0, below(2) == 0 ? 10 : 40)).append(gap()).append(';');
        }
        for (int i = below(3); i > 0; i--) {
            text.append("fade").append(' ').append(number(0, 9)).append(';');
        }
        return spoilt(text, 600, 25);
    }

    private void men(StringBuilder text) {
        for (int i = 0; i < men; i++) {
            int old = below(3) == 0 ? within(55, 61) : within(10, 70);
            text.append("man ").append(number(1, 99)).append(' ').append(number(old, old)).append(gap()).append(';');
        }
    }

    String law() {
        StringBuilder text = new StringBuilder();
        sum(text, 0);
        return spoilt(text, 150, 12);
    }

    private void sum(StringBuilder text, int open) {
        unit(text, open);
        for (int i = below(4); i > 0; i--) {
            text.append(gap()).append("+-*/%".charAt(below(5))).append(gap());
            unit(text, open);
        }
    }

    private void unit(StringBuilder text, int open) {
        int way = below(open > 5 ? 8 : 12);
        if (way < 3) {
            text.append(number(0, below(4) == 0 ? 999 : 9));
        } else if (way < 8) {
            text.append(FACTS[below(8)]);
        } else if (way < 10) {
            text.append(gap()).append('(');
            sum(text, open + 1);
            text.append(gap()).append(')');
        } else {
            text.append(below(2) == 0 ? "least" : "most").append(gap()).append('[');
            sum(text, open + 1);
            text.append(',');
            sum(text, open + 1);
            text.append(']');
        }
    }

    String work() {
        StringBuilder text = new StringBuilder();
        steps(text, 0, 150);
        return spoilt(text, 150, 12);
    }

    private void steps(StringBuilder text, int open, int room) {
        for (int i = below(open == 0 ? 14 : 4); i > 0 && text.length() < room - 14; i--) {
            int way = below(16);
            text.append(gap());
            if (way < 6) {
                text.append("learn ").append(number(0, men - 1)).append(' ').append(number(0, poems - 1));
            } else if (way == 6) {
                text.append("forget ").append(number(0, men - 1)).append(' ').append(number(0, poems - 1));
            } else if (way < 10) {
                text.append("say ").append(number(0, debts - 1));
            } else if (way < 12) {
                text.append("duet ").append(number(0, debts - 1)).append(' ').append(number(0, men - 1));
            } else if (way < 14 || open > 5) {
                text.append("week");
            } else {
                text.append("again ").append(number(0, 40)).append(gap()).append('[');
                steps(text, open + 1, room - 3);
                text.append(gap()).append(']');
            }
            text.append(gap()).append(';');
        }
    }

    String book() {
        StringBuilder text = new StringBuilder();
        for (int i = below(below(6) == 0 ? 9 : 3); i > 0; i--) {
            text.append(gap()).append(number(0, men - 1)).append(' ').append(number(0, poems - 1)).append(' ')
                .append(number(0, below(3) == 0 ? 99 : 9)).append(';');
        }
        return spoilt(text, 60, 12);
    }

    private String spoilt(StringBuilder text, int longest, int oneOf) {
        if (below(oneOf) == 0 && text.length() > 0) {
            int place = below(text.length());
            int way = below(4);
            if (way == 0) text.setLength(place);
            else if (way == 1) text.deleteCharAt(place);
            else if (way == 2) text.setCharAt(place, (char) below(256));
            else text.insert(place, "poem0;9 [](+week" .charAt(below(16)));
        }
        if (text.length() > longest && below(20) != 0) text.setLength(longest);
        if (below(20) == 0) text.append("  ");
        return text.toString();
    }
}
