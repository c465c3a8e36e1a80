import java.util.ArrayList;
import java.util.List;

/**
 * "A call that throws changes nothing", over long runs of calls: beside the object stand two plain
 * lists that say what THE PATTERN and THE STRING hold. After each refused call a new object, given
 * just what the lists hold, must answer all questions as the old one does.
 */
public final class RefusedCallsTest {
    /** The document's limit for one object. */
    private static final int CALLS = 512;
    private static final String PIECES = "aab^$.|*+?()[]{}\\-,012du";
    private static final int[] CHARACTERS = {0, 'a', 'b', '(', 0xE9, 0x10FFFF, 0x110000, -1, Integer.MIN_VALUE};
    private static long seed = 20261116L;

    private final PatternJudge x = new PatternJudge();
    private final List<Integer> pattern = new ArrayList<>();
    private final List<Integer> string = new ArrayList<>();
    private int calls = 0;
    private static int refusals = 0;

    public static void main(String[] args) {
        for (int i = 0; i < 400; i++) {
            new RefusedCallsTest().run(i % 2 == 0);
        }
        int all = refusals;
        Check.due("enough calls were refused", () -> all > 4000, true);
        Check.end("RefusedCallsTest");
    }

    private void run(boolean full) {
        if (full) {
            fill(true, 600 - next(12), 0x2829282928292829L);
            fill(false, 1200 - next(12), 0x6161616161616161L);
        }
        while (calls < CALLS - 20) {
            step(full);
        }
    }

    private void fill(boolean toPattern, int length, long eight) {
        while (text(toPattern).size() + 8 <= length) {
            letters(toPattern, eight);
        }
        while (text(toPattern).size() < length) {
            letter(toPattern, 'a');
        }
    }

    private void step(boolean full) {
        boolean toPattern = next(2) == 0;
        switch (next(full ? 5 : 6)) {
            case 0:
                letter(toPattern, CHARACTERS[next(CHARACTERS.length)]);
                break;
            case 1:
                letters(toPattern, piece(next(9)));
                break;
            case 2:
                ask(next(string.size() + 3) - 1);
                break;
            case 3:
                letters(toPattern, piece(8));
                break;
            case 4:
                letters(true, piece(next(3)));
                break;
            default:
                calls++;
                x.clear(toPattern);
                text(toPattern).clear();
                break;
        }
    }

    private List<Integer> text(boolean ofPattern) {
        return ofPattern ? pattern : string;
    }

    private static int room(boolean ofPattern) {
        return ofPattern ? 600 : 1200;
    }

    private void letter(boolean toPattern, int c) {
        List<Integer> text = text(toPattern);
        calls++;
        if (c < 0 || c > 0x10FFFF) {
            refused("letter " + c, () -> x.letter(toPattern, c), Check.ILLEGAL);
        } else if (text.size() == room(toPattern)) {
            refused("letter " + c, () -> x.letter(toPattern, c), Check.OUT_OF_BOUNDS);
        } else {
            text.add(c);
            Check.due("letter " + c, () -> x.letter(toPattern, c), text.size());
        }
    }

    private void letters(boolean toPattern, long w) {
        List<Integer> text = text(toPattern);
        List<Integer> more = new ArrayList<>();
        for (int shift = 56; shift >= 0 && (w >>> shift & 255) != 0; shift -= 8) {
            more.add((int) (w >>> shift & 255));
        }
        calls++;
        if (text.size() + more.size() > room(toPattern)) {
            refused("letters " + w, () -> x.letters(toPattern, w), Check.OUT_OF_BOUNDS);
        } else {
            text.addAll(more);
            Check.due("letters " + w, () -> x.letters(toPattern, w), text.size());
        }
    }

    /** A pattern that is none, or a place outside: whichever it is, a new object tells it, too. */
    private void ask(int from) {
        PatternJudge fresh = fresh();
        String due = Check.answer(() -> fresh.longest(from));
        calls++;
        if (due.endsWith("Exception")) {
            refused("longest(" + from + ")", () -> x.longest(from), due);
        } else {
            Check.due("longest(" + from + ")", () -> x.longest(from), due);
        }
    }

    private void refused(String what, Check.Call call, String exception) {
        refusals++;
        Check.due(what, call, exception);
        calls += 11;
        Check.due("all answers after the refused " + what, () -> Check.allAnswers(x), Check.allAnswers(fresh()));
    }

    private PatternJudge fresh() {
        return Check.judge(asText(pattern), asText(string));
    }

    private static String asText(List<Integer> characters) {
        StringBuilder s = new StringBuilder();
        characters.forEach(s::appendCodePoint);
        return s.toString();
    }

    private static long piece(int length) {
        long w = 0;
        for (int i = 0; i < 8; i++) {
            w = w << 8 | (i < length ? PIECES.charAt(next(PIECES.length())) : 0);
        }
        return w;
    }

    private static int next(int bound) {
        seed = seed * 6364136223846793005L + 1442695040888963407L;
        return (int) ((seed >>> 33) % bound);
    }
}
