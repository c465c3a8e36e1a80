/** What the tests share: counts wrong answers, tells each, and ends the test with exit code 1. */
final class Check {
    static final String ILLEGAL = "IllegalArgumentException";
    static final String OUT_OF_BOUNDS = "IndexOutOfBoundsException";

    interface Call {
        Object answer();
    }

    private static int wrong = 0;
    private static int asked = 0;

    private Check() {
    }

    static void due(String what, Call call, Object want) {
        String got;
        try {
            got = String.valueOf(call.answer());
        } catch (RuntimeException e) {
            got = e.getClass().getSimpleName();
        }
        asked++;
        if (!got.equals(String.valueOf(want))) {
            wrong++;
            System.out.println(brief(what) + ": answered " + got + ", due is " + want);
        }
    }

    private static String brief(String what) {
        return what.length() <= 200 ? what : what.substring(0, 200) + " ..";
    }

    static void end(String test) {
        System.out.println(test + ": " + asked + " answers, " + wrong + " wrong");
        if (wrong != 0 || asked == 0) {
            System.exit(1);
        }
    }

    static void put(PatternJudge x, boolean pattern, String text) {
        text.codePoints().forEach(c -> x.letter(pattern, c));
    }

    static PatternJudge judge(String pattern, String string) {
        PatternJudge x = new PatternJudge();
        put(x, true, pattern);
        put(x, false, string);
        return x;
    }

    static void size(String pattern, int want) {
        due("size of " + pattern, () -> judge(pattern, "").size(), want);
    }

    /** None: all four calls refuse it, and longest does so before it looks at the place. */
    static void none(String pattern) {
        PatternJudge x = judge(pattern, "ab");
        due("size of " + pattern, x::size, ILLEGAL);
        due("matches of " + pattern, x::matches, ILLEGAL);
        due("first of " + pattern, x::first, ILLEGAL);
        due("longest(0) of " + pattern, () -> x.longest(0), ILLEGAL);
        due("longest(-1) of " + pattern, () -> x.longest(-1), ILLEGAL);
        due("longest(3) of " + pattern, () -> x.longest(3), ILLEGAL);
    }

    /** The place of the first part, and where the longest part ends from each place on. */
    static void run(String pattern, String string, int first, int... ends) {
        PatternJudge x = judge(pattern, string);
        String what = pattern + " over " + string;
        due("matches, " + what, x::matches, first >= 0);
        due("first, " + what, x::first, first);
        for (int i = 0; i < ends.length; i++) {
            int from = i;
            due("longest(" + from + "), " + what, () -> x.longest(from), ends[i]);
        }
    }

    /** Whether the pattern, as a T, takes the one character c as a whole. */
    static void takes(String pattern, int c, boolean want) {
        PatternJudge x = judge("^(?:" + pattern + ")$", "");
        x.letter(false, c);
        due("matches, " + pattern + " over the character " + Integer.toHexString(c), x::matches, want);
    }
}
