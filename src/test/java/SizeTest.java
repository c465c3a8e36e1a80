/** Promise 5, and which patterns are none (for the promises 5 to 8). */
public final class SizeTest {
    public static void main(String[] args) {
        sizes();
        sizesOfNothing();
        sizeLimit();
        quantities();
        brackets();
        plainCharacters();
        escapes();
        sets();
        Check.end("SizeTest");
    }

    private static void sizes() {
        Check.size("", 0);
        Check.size("a", 1);
        Check.size("^", 1);
        Check.size("$", 1);
        Check.size("|", 1);
        Check.size("^$.|[a-z]\\d\\u{61}", 7);
        Check.size("a(b|cd)*e", 7);
        Check.size("(?:ab)", 2);
        Check.size("a*", 2);
        Check.size("a+", 3);
        Check.size("a?", 2);
        Check.size("a*?b+?c??", 7);
        Check.size("a{3}", 4);
        Check.size("a{1}", 2);
        Check.size("a{3}?", 4);
        Check.size("a{2,}", 4);
        Check.size("a{2,5}", 6);
        Check.size("a{2,2}", 3);
        Check.size("a{0,}", 2);
        Check.size("a{50,50}", 51);
        Check.size("(ab){2,5}", 11);
        Check.size("(ab){2,}", 7);
        Check.size("(a?){3}a{3}", 11);
        Check.size("((a|b)+)*", 8);
    }

    /** What is repeated counts 1 at least, and the Q counts 1 more. */
    private static void sizesOfNothing() {
        Check.size("()", 0);
        Check.size("((?:))", 0);
        Check.size("a{0}", 2);
        Check.size("a{0,0}", 2);
        Check.size("(abc){0}", 2);
        Check.size("()*", 2);
        Check.size("()?", 2);
        Check.size("(){50}", 2);
        Check.size("(){2,}", 2);
        Check.size("(()*){2}", 5);
        Check.size("(|)*", 2);
    }

    private static void sizeLimit() {
        Check.size("a".repeat(400), 400);
        Check.none("a".repeat(401));
        Check.size("(a{48}){8}" + "b".repeat(7), 400);
        Check.none("(a{48}){8}" + "b".repeat(8));
        Check.none("(a{49}){8}");
        Check.size("|".repeat(400), 400);
        Check.none("|".repeat(401));
        Check.size("()".repeat(300), 0);
        Check.none("(".repeat(29) + "a" + "){50}".repeat(29));
        Check.size("((a{50}){50}){0}", 2);
        Check.size("(".repeat(30) + "a" + "){50}".repeat(29) + "){0}", 2);
        // As many states as an automaton of this size can have.
        Check.size("(?:a{0,1}){0,49}".repeat(3) + "a?".repeat(51), 3 * 99 + 102);
    }

    private static void quantities() {
        Check.none("*");
        Check.none("a**");
        Check.none("a*+");
        Check.none("a???");
        Check.none("|+");
        Check.none("(+)");
        Check.none("^*");
        Check.none("$?");
        Check.none("^{2}");
        Check.none("a{");
        Check.none("a{2");
        Check.none("a{2,");
        Check.none("a{2,3");
        Check.none("a{}");
        Check.none("a{,}");
        Check.none("a{,2}");
        Check.none("a{a}");
        Check.none("a{-1}");
        Check.none("a{1 }");
        Check.none("a{2}{3}");
        Check.none("{2}");
        Check.none("a}");
        Check.none("a{3,2}");
        Check.none("a{51}");
        Check.none("a{0,51}");
        Check.none("a{51,}");
        Check.none("a{999}");
        Check.none("a{0001}");
        Check.none("a{1,0002}");
        Check.none("a{4294967297}");
        Check.size("a{050}", 51);
        Check.size("a{001,002}", 3);
        Check.size("a{000}", 2);
    }

    private static void brackets() {
        Check.none("(");
        Check.none(")");
        Check.none("(a");
        Check.none("a)");
        Check.none("(a))");
        Check.none("(?a)");
        Check.none("(?");
        Check.none("(?:");
        Check.none("(?=a)");
        Check.none("(?!a)");
        Check.none("(?<n>a)");
        Check.none("(??:a)");
        Check.size("(:a)", 2);
        Check.size("(?::)", 1);
        Check.size("(".repeat(30) + "a" + ")".repeat(30), 1);
        Check.size("(?:".repeat(30) + "a" + ")".repeat(30), 1);
        Check.none("(".repeat(31) + "a" + ")".repeat(31));
        Check.none("(?:".repeat(31) + ")".repeat(31));
        Check.none("(".repeat(600));
        Check.size("(a)".repeat(31), 31);
        Check.size("[(]".repeat(31) + "\\(".repeat(31), 62);
    }

    private static void plainCharacters() {
        Check.none("]");
        Check.none("}");
        Check.none("{");
        Check.none("?");
        Check.none("+");
        Check.size("-/,:=!<>#&~`'\"@% ", 17);
        Check.size("\0\u2028\uD83D\uDE00", 3);
        Check.size("\u0129\u012A\u015B\u017C", 4);
    }

    private static void escapes() {
        Check.size("\\d\\D\\w\\W\\s\\S\\t\\n\\v\\f\\r\\0", 12);
        Check.size("\\^\\$\\\\\\.\\*\\+\\?\\(\\)\\[\\]\\{\\}\\|\\/", 15);
        Check.size("\\x4a\\xFf\\u00e9\\uFFFF\\u{0}\\u{10FFFF}\\u{10ffff}", 7);
        Check.size("\\u{" + "0".repeat(590) + "61}", 1);
        Check.size("\\0a\\0\\0", 4);
        Check.none("\\");
        for (String s : new String[] {"a", "b", "B", "c", "e", "k", "p", "P", "1", "9", "-", "_", " ", "T", "N", "X41",
                "U0041", ",", "\"", "\u0129"}) {
            Check.none("\\" + s);
        }
        for (char c = '0'; c <= '9'; c++) {
            Check.none("\\0" + c);
        }
        Check.none("\\x");
        Check.none("\\x4");
        Check.none("\\x4g");
        Check.none("\\xg4");
        Check.none("\\u");
        Check.none("\\u004");
        Check.none("\\u004g");
        Check.none("\\u{");
        Check.none("\\u{}");
        Check.none("\\u{61");
        Check.none("\\u{6g}");
        Check.none("\\u{ 61}");
        Check.none("\\u{110000}");
        Check.none("\\u{100000061}");
        Check.none("\\u{10000000000000061}");
    }

    private static void sets() {
        Check.size("[]", 1);
        Check.size("[^]", 1);
        Check.size("[a-z0-9_-]", 1);
        Check.size("[\\d\\-\\b\\]\\\\]*", 2);
        Check.size("[[^$.*+?(){}|]", 1);
        Check.size("[\\d-]", 1);
        Check.size("[-\\d]", 1);
        Check.size("[a-c-\\d]", 1);
        Check.size("[" + "a".repeat(598) + "]", 1);
        Check.none("[");
        Check.none("[^");
        Check.none("[a");
        Check.none("[a-");
        Check.none("[a\\]");
        Check.none("[]]");
        Check.none("[^]]");
        Check.none("[z-a]");
        Check.none("[a--]");
        Check.none("[b-a-]");
        Check.none("[\\d-z]");
        Check.none("[a-\\d]");
        Check.none("[+-\\S]");
        Check.none("[\\0-\\d]");
        Check.none("[\\0-\\S]");
        Check.none("[\\w-\\w]");
        Check.none("[\\a]");
        Check.none("[\\B]");
        Check.none("[\\1]");
        Check.none("[\\00]");
        Check.none("[\\u{110000}]");
        Check.none("[\\x6]");
        Check.none("[" + "a".repeat(599));
    }
}
