/** Looks at both sides of an edge: the last that is allowed, and the first that is not. */
final class Edges {
    private Edges() {
    }

    /** A call by the one argument whose edges are looked at. */
    interface By {
        long answer(int argument);
    }

    static int read(PaidByHeart x, String sort, String text) {
        switch (sort) {
            case "valley": return Pen.valley(x, text);
            case "law": return Pen.law(x, text);
            case "work": return Pen.work(x, text);
            case "book": return Pen.book(x, text);
            default: throw new AssertionError(sort);
        }
    }

    static void takes(String valley, String sort, String text, int answer) {
        PaidByHeart x = Pen.of(valley);
        Pen.due(sort + " " + text, answer, () -> read(x, sort, text));
        Pen.due("no fault in " + text, -1, () -> x.fault());
        Pen.due("no byte is left of " + text, 0, () -> x.count(1));
    }

    static void refuses(String valley, String sort, String text, int kind, int place) {
        PaidByHeart x = Pen.of(valley);
        Pen.due(sort + " " + text, kind - 10, () -> read(x, sort, text));
        Pen.due("place in " + text, place, () -> x.fault());
        Pen.due("no byte is left of " + text, 0, () -> x.count(1));
    }

    /** A number between two parts of a text: each one from least to most may stand there, none beyond. */
    static void number(String valley, String sort, String before, int least, int most, String behind, int answer) {
        for (int n = least; n <= most; n++) takes(valley, sort, before + n + behind, answer);
        int place = before.length();
        if (least > 0) refuses(valley, sort, before + (least - 1) + behind, 2, place);
        refuses(valley, sort, before + (most + 1) + behind, 2, place);
        // as many digits as stand there are one number, which no wrap makes fit
        refuses(valley, sort, before + ((1L << 32) + least) + behind, 2, place);
        takes(valley, sort, before + "000" + most + behind, answer);
        refuses(valley, sort, before + "-" + most + behind, 1, place);
        refuses(valley, sort, before + "x" + behind, 1, place);
    }

    /** An argument of a call: no exception from least to most, IllegalArgumentException beyond. */
    static void argument(String name, int least, int most, By call) {
        within(name, least, most, call);
        for (int n : new int[] {least - 1, most + 1, Integer.MIN_VALUE, Integer.MAX_VALUE}) {
            Pen.illegal(name + " by " + n, () -> call.answer(n));
        }
    }

    /** A poem, man or debt of so many: NoSuchElementException beyond. */
    static void element(String name, int many, By call) {
        within(name, 0, many - 1, call);
        for (int n : new int[] {-1, many, Integer.MIN_VALUE, Integer.MAX_VALUE}) {
            Pen.noSuch(name + " by " + n, () -> call.answer(n));
        }
    }

    private static void within(String name, int least, int most, By call) {
        for (int n = least; n <= most; n++) {
            // an object is used for 512 calls at the most
            if (most - least > 100 && n == least + 2) n = most - 2;
            int argument = n;
            Pen.due(name + " by " + n + " is allowed", 1, () -> Pen.of(() -> call.answer(argument)) > Pen.OTHER ? 1 : 0);
        }
    }
}
