/** Promises 1 to 4: a new object, letters, letter, clear. */
public final class TextTest {
    private static final String ILLEGAL = Check.ILLEGAL;
    private static final String OUT = Check.OUT_OF_BOUNDS;

    public static void main(String[] args) {
        newObject();
        lettersComeHighestFirst();
        lettersEndAtZero();
        lettersRefuseTooMany(true, 600);
        lettersRefuseTooMany(false, 1200);
        letterComes();
        letterRefuses(true, 600);
        letterRefuses(false, 1200);
        clearEmptiesOne();
        throwsChangeNothing();
        Check.end("TextTest");
    }

    private static void newObject() {
        PatternJudge x = new PatternJudge();
        Check.due("new: size", x::size, 0);
        Check.due("new: matches", x::matches, true);
        Check.due("new: first", x::first, 0);
        Check.due("new: longest(0)", () -> x.longest(0), 0);
        Check.due("new: longest(1)", () -> x.longest(1), OUT);
        Check.due("new: letters of the pattern", () -> x.letters(true, 0L), 0);
        Check.due("new: letters of the string", () -> x.letters(false, 0L), 0);
    }

    private static void lettersComeHighestFirst() {
        PatternJudge x = new PatternJudge();
        Check.due("letters eight", () -> x.letters(false, 0x6162636465666768L), 8);
        Check.due("letters two more", () -> x.letters(false, 0x696A000000000000L), 10);
        Check.due("letters to the pattern", () -> x.letters(true, 0x5E61626364656667L), 8);
        Check.due("letters to the pattern", () -> x.letters(true, 0x68696A2400000000L), 12);
        Check.due("letters in their order", x::matches, true);
        PatternJudge y = new PatternJudge();
        Check.due("letters with the highest octet", () -> y.letters(false, 0xFF80FE0000000000L), 3);
        Check.put(y, true, "^\\xff\\x80\\xfe$");
        Check.due("octets are 0 to 255", y::matches, true);
    }

    private static void lettersEndAtZero() {
        PatternJudge x = new PatternJudge();
        Check.due("letters of 0", () -> x.letters(false, 0L), 0);
        Check.due("letters behind a 0", () -> x.letters(false, 0x0061626364656667L), 0);
        Check.due("letters round a 0", () -> x.letters(false, 0x6100626364656667L), 1);
        Check.due("letters, last 0", () -> x.letters(false, 0x6263646566676800L), 8);
        Check.put(x, true, "^abcdefgh$");
        Check.due("what came", x::matches, true);
    }

    private static void lettersRefuseTooMany(boolean pattern, int room) {
        PatternJudge x = new PatternJudge();
        for (int i = 1; i < room / 8; i++) {
            int due = 8 * i;
            Check.due("letters", () -> x.letters(pattern, 0x6161616161616161L), due);
        }
        Check.due("letters to one before the last", () -> x.letters(pattern, 0x6161616161616100L), room - 1);
        Check.due("letters beyond the limit", () -> x.letters(pattern, 0x6161616161616161L), OUT);
        Check.due("two letters beyond the limit", () -> x.letters(pattern, 0x6161000000000000L), OUT);
        Check.due("none came", () -> x.letters(pattern, 0L), room - 1);
        Check.due("letters to the limit", () -> x.letters(pattern, 0x6100616161616161L), room);
        Check.due("one letter beyond the limit", () -> x.letters(pattern, 0x6100000000000000L), OUT);
        Check.due("no letter at the limit", () -> x.letters(pattern, 0L), room);
        Check.due("the other one is empty", () -> x.letters(!pattern, 0x6100000000000000L), 1);
    }

    private static void letterComes() {
        PatternJudge x = new PatternJudge();
        int[] all = {0, 1, 255, 256, 0xD800, 0xDFFF, 0xFFFF, 0x10000, 0x10FFFF};
        for (int i = 0; i < all.length; i++) {
            int at = i;
            Check.due("letter to the pattern", () -> x.letter(true, all[at]), i + 1);
            Check.due("letter to the string", () -> x.letter(false, all[at]), i + 1);
        }
        Check.due("all letters match themselves", () -> x.longest(0), all.length);
    }

    private static void letterRefuses(boolean pattern, int room) {
        PatternJudge x = new PatternJudge();
        for (int c : new int[] {-1, 0x110000, Integer.MIN_VALUE, Integer.MAX_VALUE}) {
            Check.due("letter " + c, () -> x.letter(pattern, c), ILLEGAL);
        }
        Check.due("none came", () -> x.letters(pattern, 0L), 0);
        Check.put(x, pattern, "a".repeat(room - 200));
        for (int i = room - 199; i <= room; i++) {
            Check.due("letter", () -> x.letter(pattern, 'a'), i);
        }
        Check.due("letter beyond the limit", () -> x.letter(pattern, 'a'), OUT);
        Check.due("no character beyond the limit", () -> x.letter(pattern, -1), ILLEGAL);
        Check.due("none came beyond the limit", () -> x.letters(pattern, 0L), room);
    }

    private static void clearEmptiesOne() {
        PatternJudge x = Check.judge("a{2}", "aab");
        x.clear(false);
        Check.due("string cleared", () -> x.letters(false, 0L), 0);
        Check.due("pattern kept", x::size, 3);
        Check.due("empty string", x::matches, false);
        Check.put(x, false, "baa");
        x.clear(true);
        Check.due("pattern cleared", () -> x.letters(true, 0L), 0);
        Check.due("string kept", () -> x.letters(false, 0L), 3);
        Check.due("size of the cleared pattern", x::size, 0);
        Check.due("the cleared pattern matches", () -> x.longest(3), 3);
        Check.put(x, true, "a+");
        Check.due("a new pattern", x::first, 1);
        x.clear(true);
        x.clear(true);
        Check.due("cleared twice", x::size, 0);
    }

    private static void throwsChangeNothing() {
        PatternJudge x = Check.judge("ab", "xab");
        Check.due("refused place", () -> x.longest(4), OUT);
        Check.due("refused letter", () -> x.letter(true, 0x110000), ILLEGAL);
        Check.due("first after refusals", x::first, 1);
        Check.put(x, true, "(");
        Check.due("refused pattern", x::first, ILLEGAL);
        Check.due("the pattern is kept", () -> x.letters(true, 0x6329000000000000L), 5);
        Check.due("it goes on", x::size, 3);
        Check.due("the string is kept", () -> x.letters(false, 0x6300000000000000L), 4);
        Check.due("it matches", x::first, 1);
    }
}
