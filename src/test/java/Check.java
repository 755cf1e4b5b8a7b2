/** What the tests share: an answer that is due, an exception that is due, and short ways to fill a keeper. */
final class Check {
    interface Call {
        int answer();
    }

    private static int right;
    private static int wrong;

    private Check() {
    }

    /** What was answered, or what was thrown. */
    static String answer(Call asked) {
        try {
            return String.valueOf(asked.answer());
        } catch (RuntimeException e) {
            return e.toString();
        }
    }

    static void due(String call, int want, Call asked) {
        note(call, String.valueOf(want), answer(asked));
    }

    /** The very class is due, not one below it: the machine's own exceptions are below some of them. */
    static void thrown(String call, Class<? extends RuntimeException> want, Call asked) {
        String got;
        try {
            got = String.valueOf(asked.answer());
        } catch (RuntimeException e) {
            got = e.getClass() == want ? want.getName() : e.toString();
        }
        note(call, want.getName(), got);
    }

    static void note(String call, String want, String got) {
        if (want.equals(got)) {
            right++;
        } else {
            wrong++;
            System.out.println(call + " answered " + got + ", due is " + want);
        }
    }

    static void finish(String name) {
        System.out.println(name + ": " + right + " answers as due, " + wrong + " not");
        if (wrong != 0) {
            System.exit(1);
        }
    }

    /** Puts a text behind what the tape has. */
    static void write(FactKeeper keeper, String text) {
        int end = keeper.count(0) + text.length();
        for (int from = 0; from < text.length(); from += 20) {
            int[] fours = new int[5];
            for (int i = 0; i < 20; i++) {
                int one = from + i < text.length() ? text.charAt(from + i) & 0xff : 0;
                fours[i / 4] |= one << 24 - 8 * (i % 4);
            }
            keeper.feed(fours[0], fours[1], fours[2], fours[3], fours[4]);
        }
        keeper.end(end);
    }

    static int ask(FactKeeper keeper, String text, int at) {
        write(keeper, text);
        return keeper.question(at);
    }

    static int ask(FactKeeper keeper, String text) {
        return ask(keeper, text, -1);
    }

    static void solved(FactKeeper keeper, String text, int solutions, int lookedAt) {
        due(text, solutions, () -> ask(keeper, text));
        due(text + " looked at", lookedAt, () -> keeper.count(5));
        due(text + " place", -1, () -> keeper.count(6));
    }

    static void broken(FactKeeper keeper, String text, int place) {
        thrown(text, UnsupportedOperationException.class, () -> ask(keeper, text));
        due(text + " place", place, () -> keeper.count(6));
        due(text + " tape", 0, () -> keeper.count(0));
    }

    static void values(FactKeeper keeper, int... some) {
        for (int k = 0; k < some.length; k++) {
            keeper.value(k, some[k]);
        }
    }

    static int ahead(FactKeeper keeper, int t, int... columns) {
        values(keeper, columns);
        return keeper.add(t, 1);
    }

    static int behind(FactKeeper keeper, int t, int... columns) {
        values(keeper, columns);
        return keeper.add(t, 0);
    }
}
