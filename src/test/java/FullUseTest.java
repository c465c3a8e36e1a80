import java.util.ArrayList;
import java.util.List;

/**
 * "An object is used for at most 512 calls": the last of them is answered as the first, whatever
 * call it is; and what is asked of one object is no matter to another one.
 */
public final class FullUseTest {
    private static final int CALLS = 512;
    private static final int ROOM = 600;
    private static final int LENGTH = 1200;
    private static long seed = 20261117L;

    public static void main(String[] args) {
        Check.sentence("An object is used for at most 512 calls after it has been made");
        for (String last : new String[] {"letters", "letter", "clear", "size", "matches", "longest", "first"}) {
            fullObject(last);
        }
        for (int i = 0; i < 20; i++) {
            newPatternEachTime();
        }
        Check.sentence("A new object");
        inTurn();
        Check.end("FullUseTest");
    }

    /** The longest pattern and string, and a dear call each time. */
    private static void fullObject(String last) {
        PatternJudge x = new PatternJudge();
        int calls = 0;
        String pattern = "(a{0,12}|.){20}$" + "()".repeat(292);
        for (int i = 0; i < ROOM / 8; i++) {
            Check.put(x, true, pattern.substring(8 * i, 8 * i + 8));
            calls++;
        }
        for (int i = 0; i < LENGTH / 8; i++) {
            Check.put(x, false, "aaaaaaaa");
            calls++;
        }
        for (int from = LENGTH - 100; calls < CALLS - 1; calls++) {
            int at = from;
            Check.due("longest(" + at + "), call " + (calls + 1), () -> x.longest(at), at < LENGTH - 240 ? -1 : LENGTH);
            from = from == LENGTH ? LENGTH - 300 : from + 1;
        }
        lastCall(x, last);
    }

    private static void lastCall(PatternJudge x, String last) {
        String what = last + ", the last call";
        switch (last) {
            case "letters":
                Check.due(what, () -> x.letters(true, 0x6100000000000000L), Check.OUT_OF_BOUNDS);
                break;
            case "letter":
                Check.due(what, () -> x.letter(false, 'a'), Check.OUT_OF_BOUNDS);
                break;
            case "clear":
                Check.due(what, () -> cleared(x), "cleared");
                break;
            case "size":
                Check.due(what, x::size, 20 * 15 + 1 + 1);
                break;
            case "matches":
                Check.due(what, x::matches, true);
                break;
            case "longest":
                Check.due(what, () -> x.longest(LENGTH - 240), LENGTH);
                break;
            default:
                Check.due(what, x::first, LENGTH - 240);
                break;
        }
    }

    private static String cleared(PatternJudge x) {
        x.clear(true);
        return "cleared";
    }

    /** What an earlier pattern or string has left behind is no matter to a later one. */
    private static void newPatternEachTime() {
        String[] patterns = {"a+b", "[^a]", "(x|ab)*$", "^", "\\d|b", "a{2,}", "(", "[b-]", "|a", "b$", "[]|1",
            "[\\d]"};
        String[] strings = {"aab", "", "xabab", "b-b1", "aaaa"};
        PatternJudge x = new PatternJudge();
        int calls = 0;
        for (int i = 0; calls + 15 <= CALLS; i++) {
            String pattern = patterns[next(patterns.length)];
            String string = strings[next(strings.length)];
            x.clear(true);
            x.clear(false);
            Check.put(x, true, pattern);
            Check.put(x, false, string);
            calls += 15;
            Check.due(pattern + " over " + string + " after " + (i + 1) + " patterns", () -> Check.allAnswers(x),
                    Check.allAnswers(Check.judge(pattern, string)));
        }
    }

    private static int next(int bound) {
        seed = seed * 6364136223846793005L + 1442695040888963407L;
        return (int) ((seed >>> 33) % bound);
    }

    private static void inTurn() {
        String[] patterns = {"a", "b+", "[^]$", "", "(", "(a|b){2}"};
        List<PatternJudge> objects = new ArrayList<>();
        List<List<String>> alone = new ArrayList<>();
        for (String pattern : patterns) {
            alone.add(Check.allAnswers(Check.judge(pattern, "abba" + pattern)));
            objects.add(new PatternJudge());
        }
        for (int i = 0; i < 4; i++) {
            for (PatternJudge x : objects) {
                x.letter(false, "abba".charAt(i));
            }
        }
        for (int i = 0; i < patterns.length; i++) {
            Check.put(objects.get(i), true, patterns[i]);
            Check.put(objects.get(i), false, patterns[i]);
        }
        for (int i = 0; i < 3 * patterns.length; i++) {
            int one = i % patterns.length;
            Check.due(patterns[one] + " in turn", () -> Check.allAnswers(objects.get(one)), alone.get(one));
        }
    }
}
