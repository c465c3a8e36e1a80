/**
 * The boundary cases that the promises 1 to 8 name, one method for each sentence: the last value
 * that is allowed, the first one that is not, and that a refused call changes nothing.
 */
public final class PromisesBoundaryTest {
    private static final String ILLEGAL = Check.ILLEGAL;
    private static final String OUT = Check.OUT_OF_BOUNDS;
    private static final int LAST = 0x10FFFF;

    public static void main(String[] args) {
        newObject();
        octets();
        firstZero();
        tooManyLetters(true, 600);
        tooManyLetters(false, 1200);
        noCharacter(true);
        noCharacter(false);
        tooManyByLetter(true, 600);
        tooManyByLetter(false, 1200);
        emptyAgain();
        sizeOfNone();
        matchesOfNone();
        longestWithoutPart();
        longestOfNone();
        longestOutside();
        firstWithoutPart();
        firstOfNone();
        Check.end("PromisesBoundaryTest");
    }

    private static void newObject() {
        Check.sentence("THE PATTERN and THE STRING are empty");
        PatternJudge x = new PatternJudge();
        Check.due("size", x::size, 0);
        Check.due("matches", x::matches, true);
        Check.due("first", x::first, 0);
        Check.due("longest(0)", () -> x.longest(0), 0);
        Check.refused(x, "longest(1)", () -> x.longest(1), OUT);
        Check.refused(x, "longest(-1)", () -> x.longest(-1), OUT);
        Check.due("first letter of the pattern", () -> x.letter(true, 'a'), 1);
        Check.due("first letter of the string", () -> x.letter(false, 'a'), 1);
        PatternJudge y = new PatternJudge();
        Check.due("another new object, pattern", () -> y.letters(true, 0L), 0);
        Check.due("another new object, string", () -> y.letters(false, 0L), 0);
        Check.due("the first object is as before", () -> x.longest(0), 1);
    }

    private static void octets() {
        Check.sentence("Up to eight characters, the octets of w (0 to 255 each, as characters), the highest first");
        for (boolean pattern : new boolean[] {true, false}) {
            PatternJudge x = new PatternJudge();
            Check.due("eight octets", () -> x.letters(pattern, 0x6162636465666768L), 8);
            Check.put(x, !pattern, pattern ? "abcdefgh" : "^abcdefgh$");
            Check.due("they stand in this order", () -> x.longest(0), 8);
            PatternJudge y = new PatternJudge();
            Check.due("the greatest octets", () -> y.letters(pattern, -1L), 8);
            for (int i = 0; i < 8; i++) {
                y.letter(!pattern, 255);
            }
            Check.due("255 each", () -> y.longest(0), 8);
            PatternJudge z = new PatternJudge();
            Check.due("octets from 127 on", () -> z.letters(pattern, 0x7F80818201FEFF00L), 7);
            for (int c : new int[] {0x7F, 0x80, 0x81, 0x82, 1, 0xFE, 0xFF}) {
                z.letter(!pattern, c);
            }
            Check.due("each as it is", () -> z.longest(0), 7);
        }
    }

    private static void firstZero() {
        Check.sentence("to the first one that is 0");
        for (boolean pattern : new boolean[] {true, false}) {
            PatternJudge x = new PatternJudge();
            Check.due("0", () -> x.letters(pattern, 0L), 0);
            Check.due("1: the last octet alone", () -> x.letters(pattern, 1L), 0);
            Check.due("first octet 0", () -> x.letters(pattern, 0x0061626364656667L), 0);
            Check.due("second octet 0", () -> x.letters(pattern, 0x6100FFFFFFFFFFFFL), 1);
            Check.due("third octet 0", () -> x.letters(pattern, 0x6263006100000061L), 3);
            Check.due("seventh octet 0", () -> x.letters(pattern, 0x6465666768690061L), 9);
            Check.due("last octet 0", () -> x.letters(pattern, 0x6A6B6C6D6E6F7000L), 16);
            Check.due("no octet 0", () -> x.letters(pattern, 0x7172737475767778L), 24);
            Check.put(x, !pattern, "abcdefghijklmnopqrstuvwx");
            Check.due("what came", () -> x.longest(0), 24);
        }
    }

    private static void tooManyLetters(boolean pattern, int room) {
        Check.sentence("IndexOutOfBoundsException: it would have too many (none come then)");
        for (int free = 0; free <= 8; free++) {
            PatternJudge x = new PatternJudge();
            Check.put(x, pattern, "(".repeat(room - free));
            Check.put(x, !pattern, "b");
            for (int more = 0; more <= 8; more++) {
                long w = more == 0 ? 0L : 0x6262626262626262L << (8 * (8 - more));
                if (more > free) {
                    Check.refused(x, more + " with room for " + free, () -> x.letters(pattern, w), OUT);
                }
            }
            int had = room - free;
            Check.due("none came", () -> x.letters(pattern, 0L), had);
            if (!pattern) {
                Check.due("none of the letters stands there", x::first, -1);
            }
            Check.due("none come behind a 0", () -> x.letters(pattern, 0x0062626262626262L), had);
            long last = free == 0 ? 0L : 0x6262626262626262L << (8 * (8 - free));
            Check.due("as many as there is room for", () -> x.letters(pattern, last), room);
            if (!pattern) {
                Check.due("they stand at the end", x::first, free == 0 ? -1 : had);
            }
        }
        PatternJudge y = Check.judge(pattern ? "[" + "a".repeat(598) + "]" : "[^a]", pattern ? "ba" : "a".repeat(1200));
        Check.due("the full one is as it was", y::first, pattern ? 1 : -1);
        Check.refused(y, "one more", () -> y.letters(pattern, 0x6200000000000000L), OUT);
        Check.refused(y, "eight more", () -> y.letters(pattern, 0x6262626262626262L), OUT);
        Check.due("the full one is as it was after refusals", y::first, pattern ? 1 : -1);
        Check.due("the other one has room", () -> y.letters(!pattern, 0x6200000000000000L), pattern ? 3 : 5);
    }

    private static void noCharacter(boolean pattern) {
        Check.sentence("IllegalArgumentException: c is not 0 to 10FFFF");
        PatternJudge x = new PatternJudge();
        Check.refused(x, "letter -1", () -> x.letter(pattern, -1), ILLEGAL);
        Check.due("letter 0", () -> x.letter(pattern, 0), 1);
        Check.due("letter 10FFFF", () -> x.letter(pattern, LAST), 2);
        for (int c : new int[] {LAST + 1, -1, 0x200061, 0x1000061, Integer.MAX_VALUE, Integer.MIN_VALUE, -LAST}) {
            Check.refused(x, "letter " + c, () -> x.letter(pattern, c), ILLEGAL);
        }
        Check.due("the next one", () -> x.letter(pattern, 0x100), 3);
        int[] all = {0, LAST, 0x100};
        for (int i = 0; i < all.length; i++) {
            x.letter(!pattern, all[i]);
        }
        Check.due("just these stand there", () -> x.longest(0), 3);
        PatternJudge y = new PatternJudge();
        int[] more = {1, 0xFF, 0xD7FF, 0xD800, 0xDC00, 0xDFFF, 0xE000, 0xFFFE, 0xFFFF, 0x10000, LAST - 1};
        for (int i = 0; i < more.length; i++) {
            int at = i;
            Check.due("letter " + more[i], () -> y.letter(pattern, more[at]), i + 1);
            y.letter(!pattern, more[i]);
        }
        Check.due("each is itself", () -> y.longest(0), more.length);
    }

    private static void tooManyByLetter(boolean pattern, int room) {
        Check.sentence("letter: IndexOutOfBoundsException likewise");
        PatternJudge x = Check.judge(pattern ? "[" + "a".repeat(597) : "[^a]", pattern ? "ba" : "a".repeat(1198));
        Check.due("the last but one", () -> x.letter(pattern, 'a'), room - 1);
        Check.due("the last one", () -> x.letter(pattern, pattern ? ']' : 'a'), room);
        Check.due("first", x::first, pattern ? 1 : -1);
        for (int c : new int[] {'b', 0, LAST}) {
            Check.refused(x, "one more, " + c, () -> x.letter(pattern, c), OUT);
        }
        Check.due("first after refusals", x::first, pattern ? 1 : -1);
        Check.due("the other one has room", () -> x.letter(!pattern, 'b'), pattern ? 3 : 5);
        x.clear(pattern);
        Check.due("room again", () -> x.letter(pattern, 'a'), 1);
    }

    private static void emptyAgain() {
        Check.sentence("clear: It is empty again");
        PatternJudge x = new PatternJudge();
        x.clear(true);
        x.clear(false);
        Check.due("empty ones cleared", () -> x.longest(0), 0);
        Check.put(x, true, "a".repeat(600));
        Check.put(x, false, "b".repeat(1200));
        x.clear(true);
        Check.due("pattern cleared", () -> x.letters(true, 0L), 0);
        Check.due("string kept", () -> x.letters(false, 0L), 1200);
        Check.due("size of the cleared pattern", x::size, 0);
        Check.due("it matches what is empty", () -> x.longest(1200), 1200);
        Check.put(x, true, "b$|".repeat(200));
        x.clear(false);
        Check.due("string cleared", () -> x.letters(false, 0L), 0);
        Check.due("pattern kept", () -> x.letters(true, 0L), 600);
        x.clear(false);
        Check.due("string cleared twice", () -> x.letters(false, 0L), 0);
        x.clear(true);
        Check.put(x, true, "b");
        Check.due("no old character is left in the string", x::first, -1);
        Check.refused(x, "longest(1)", () -> x.longest(1), OUT);
        Check.put(x, false, "ab");
        Check.due("no old character is left in the pattern", () -> x.longest(1), 2);
        PatternJudge y = Check.judge("(", "a");
        Check.due("size of none", y::size, ILLEGAL);
        y.clear(true);
        Check.due("cleared, it is one again", y::size, 0);
        Check.due("the string is kept", () -> y.longest(1), 1);
    }

    private static void sizeOfNone() {
        Check.sentence("size: IllegalArgumentException: it is none");
        PatternJudge x = Check.judge("a(b", "ab");
        Check.refused(x, "size", x::size, ILLEGAL);
        Check.put(x, true, ")*");
        Check.due("what stood there is made whole", x::size, 3);
        PatternJudge y = Check.judge("a".repeat(400), "ab");
        Check.due("size 400", y::size, 400);
        Check.put(y, true, "a");
        Check.refused(y, "size 401", y::size, ILLEGAL);
        y.clear(true);
        Check.due("size of nothing", y::size, 0);
    }

    private static void matchesOfNone() {
        Check.sentence("matches: IllegalArgumentException: it is none");
        PatternJudge x = Check.judge("a[b", "xab");
        Check.refused(x, "matches", x::matches, ILLEGAL);
        Check.put(x, true, "]$");
        Check.due("what stood there is made whole", x::matches, true);
        Check.put(x, false, "c");
        Check.due("and the string goes on", x::matches, false);
        PatternJudge y = Check.judge("a".repeat(401), "a".repeat(500));
        Check.refused(y, "matches of size 401", y::matches, ILLEGAL);
        y.clear(true);
        Check.put(y, true, "a".repeat(400));
        Check.due("matches of size 400", y::matches, true);
    }

    private static void longestWithoutPart() {
        Check.sentence("longest: -1 if there is none");
        Check.run("b", "abc", 1, -1, 2, -1, -1);
        Check.run("b*", "abc", 0, 0, 2, 2, 3);
        Check.run("b|bc|bcd", "abcd", 1, -1, 4, -1, -1, -1);
        Check.run("", "", 0, 0);
        Check.run("a", "", -1, -1);
        Check.run("[]", "a", -1, -1, -1);
    }

    private static void longestOfNone() {
        Check.sentence("longest: IllegalArgumentException, first: it is none");
        PatternJudge x = Check.judge("a{2", "aaa");
        for (int from : new int[] {0, 3, -1, 4, Integer.MIN_VALUE, Integer.MAX_VALUE}) {
            Check.refused(x, "longest(" + from + ")", () -> x.longest(from), ILLEGAL);
        }
        Check.put(x, true, "}");
        Check.due("what stood there is made whole", () -> x.longest(1), 3);
        Check.refused(x, "longest(4)", () -> x.longest(4), OUT);
    }

    private static void longestOutside() {
        Check.sentence("longest: IndexOutOfBoundsException: from is not 0 to how many characters THE STRING has");
        for (int length : new int[] {0, 1, 7, 8, 9, 1199, 1200}) {
            PatternJudge x = Check.judge("a*", "a".repeat(length));
            Check.due("from 0", () -> x.longest(0), length);
            Check.due("from the end", () -> x.longest(length), length);
            for (int from : new int[] {-1, length + 1, Integer.MIN_VALUE, Integer.MAX_VALUE, 1201}) {
                Check.refused(x, "from " + from + " of " + length, () -> x.longest(from), OUT);
            }
        }
        PatternJudge y = Check.judge("a", "aaa");
        y.clear(false);
        Check.refused(y, "from 1 of the cleared string", () -> y.longest(1), OUT);
        Check.due("from 0 of the cleared string", () -> y.longest(0), -1);
    }

    private static void firstWithoutPart() {
        Check.sentence("first: -1 if there is none");
        Check.run("a", "", -1);
        Check.run("a", "bbb", -1);
        Check.run("a", "bba", 2);
        Check.run("a", "abb", 0);
        Check.run("", "", 0);
        Check.run("$", "bbb", 3);
        Check.run("b", "a".repeat(1200), -1);
        Check.run("b", "a".repeat(1199) + "b", 1199);
        Check.run("$", "a".repeat(1200), 1200);
        // The least beginning, not the part that ends first.
        Check.run("abcde|cd|d", "abcde", 0);
        Check.run("abcdx|cd|d", "abcde", 2);
    }

    private static void firstOfNone() {
        Check.sentence("first: IllegalArgumentException: it is none");
        PatternJudge x = Check.judge("b\\", "ab.");
        Check.refused(x, "first", x::first, ILLEGAL);
        Check.put(x, true, ".");
        Check.due("what stood there is made whole", x::first, 1);
        Check.put(x, true, "*+");
        Check.refused(x, "first", x::first, ILLEGAL);
        Check.due("its length", () -> x.letters(true, 0L), 5);
        Check.due("the string's length", () -> x.letters(false, 0L), 3);
    }
}
