import java.util.ArrayList;
import java.util.List;

/** What the tests share: counts wrong answers, tells each, and ends the test with exit code 1. */
final class Check {
    static final String ILLEGAL = "IllegalArgumentException";
    static final String OUT_OF_BOUNDS = "IndexOutOfBoundsException";

    interface Call {
        Object answer();
    }

    private static int wrong = 0;
    private static int asked = 0;
    private static String sentence = "";

    private Check() {
    }

    /** The words of the document that the answers asked from here on belong to. */
    static void sentence(String words) {
        sentence = words;
    }

    static void due(String what, Call call, Object want) {
        String got = answer(call);
        asked++;
        if (!got.equals(String.valueOf(want))) {
            wrong++;
            String where = sentence.isEmpty() ? "" : "\"" + sentence + "\": ";
            System.out.println(where + brief(what) + ": answered " + brief(got) + ", due is "
                    + brief(String.valueOf(want)));
        }
    }

    static String answer(Call call) {
        try {
            return String.valueOf(call.answer());
        } catch (RuntimeException e) {
            return e.getClass().getSimpleName();
        }
    }

    private static String brief(String what) {
        return what.length() <= 200 ? what : what.substring(0, 200) + " ..";
    }

    static void end(String test) {
        System.out.println(test + ": " + asked + " answers, " + wrong + " wrong");
        if (wrong != 0 || asked == 0) {
            System.exit(1);
        }
    }

    /** By eights where that can be: an object is used for 512 calls at most. */
    static void put(PatternJudge x, boolean pattern, String text) {
        int[] all = text.codePoints().toArray();
        int i = 0;
        while (i < all.length) {
            long w = 0;
            int count = 0;
            while (count < 8 && i + count < all.length && all[i + count] > 0 && all[i + count] < 256) {
                w |= (long) all[i + count] << (56 - 8 * count);
                count++;
            }
            if (count == 0) {
                x.letter(pattern, all[i]);
                count = 1;
            } else {
                x.letters(pattern, w);
            }
            i += count;
        }
    }

    static PatternJudge judge(String pattern, String string) {
        PatternJudge x = new PatternJudge();
        put(x, true, pattern);
        put(x, false, string);
        return x;
    }

    static void size(String pattern, int want) {
        due("size of " + pattern, () -> judge(pattern, "").size(), want);
    }

    /**
     * None: all four calls refuse it, longest does so before it looks at the place, and none of
     * them changes THE PATTERN or THE STRING.
     */
    static void none(String pattern) {
        PatternJudge x = judge(pattern, "ab");
        refused(x, "size of " + pattern, x::size, ILLEGAL);
        refused(x, "matches of " + pattern, x::matches, ILLEGAL);
        refused(x, "first of " + pattern, x::first, ILLEGAL);
        for (int from : new int[] {0, -1, 3}) {
            refused(x, "longest(" + from + ") of " + pattern, () -> x.longest(from), ILLEGAL);
        }
        due("length of the refused " + pattern, () -> x.letters(true, 0L), length(pattern));
        due("length of the string under " + pattern, () -> x.letters(false, 0L), 2);
        x.clear(true);
        put(x, true, "^ab$");
        due("the string after the refused " + pattern, () -> x.longest(0), 2);
    }

    static int length(String text) {
        return text.codePointCount(0, text.length());
    }

    /** The call is refused, and all that can be asked is answered after it as before it. */
    static void refused(PatternJudge x, String what, Call call, String exception) {
        List<String> before = allAnswers(x);
        due(what, call, exception);
        due("all answers after the refused " + what, () -> allAnswers(x), before);
    }

    /** The lengths, and what the four calls answer; longest at both ends and beyond them. */
    static List<String> allAnswers(PatternJudge x) {
        List<String> all = new ArrayList<>();
        int length = x.letters(false, 0L);
        all.add(answer(() -> x.letters(true, 0L)));
        all.add(answer(() -> length));
        all.add(answer(x::size));
        all.add(answer(x::matches));
        all.add(answer(x::first));
        for (int from : new int[] {-1, 0, 1, length - 1, length, length + 1}) {
            all.add(answer(() -> x.longest(from)));
        }
        return all;
    }

    /** The place of the first part, and where the longest part ends from each place on. */
    static void run(String pattern, String string, int first, int... ends) {
        PatternJudge x = judge(pattern, string);
        String what = pattern + " over " + string;
        due("matches, " + what, x::matches, first >= 0);
        due("first, " + what, x::first, first);
        for (int i = 0; i < ends.length; i++) {
            int from = i;
            due("longest(" + from + "), " + what, () -> x.longest(from), ends[i]);
        }
    }

    /** Whether the pattern, as a T, takes the one character c as a whole. */
    static void takes(String pattern, int c, boolean want) {
        PatternJudge x = judge("^(?:" + pattern + ")$", "");
        x.letter(false, c);
        due("matches, " + pattern + " over the character " + Integer.toHexString(c), x::matches, want);
    }

    /** Of the characters 0 to 127, the pattern takes just those of all. */
    static void takesOnly(String pattern, String all) {
        for (int c = 0; c < 128; c++) {
            takes(pattern, c, all.indexOf(c) >= 0);
        }
    }
}
