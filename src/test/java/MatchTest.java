/** Promises 6 to 8: matches, longest, first, and what a pattern MATCHES. */
public final class MatchTest {
    private static final int[] BLANKS = {9, 10, 11, 12, 13, 32, 0xA0, 0x1680, 0x2000, 0x2001, 0x2005, 0x200A, 0x2028,
        0x2029, 0x202F, 0x205F, 0x3000, 0xFEFF};
    private static final int[] NO_BLANKS = {0, 8, 14, 31, 33, 0x85, 0x9F, 0xA1, 0x167F, 0x1681, 0x180E, 0x1FFF, 0x200B,
        0x2027, 0x202A, 0x202E, 0x2030, 0x205E, 0x2060, 0x2FFF, 0x3001, 0xFEFE, 0xFF00, 0x10FFFF, 'a', '0'};

    public static void main(String[] args) {
        ordinary();
        repeats();
        emptyParts();
        beginAndEnd();
        places();
        escapeSets();
        singleEscapes();
        sets();
        hyphens();
        greatest();
        Check.end("MatchTest");
    }

    private static void ordinary() {
        Check.run("ab", "xabab", 1, -1, 3, -1, 5, -1, -1);
        Check.run("a|ab", "ab", 0, 2, -1, -1);
        Check.run("ab|a", "aab", 0, 1, 3, -1, -1);
        Check.run("(a|b)(c|d)", "xbd", 1, -1, 3, -1, -1);
        Check.run("abcd|c", "abcabce", 2, -1, -1, 3, -1, -1, 6, -1, -1);
        Check.run("abcde|c", "abcde", 0, 5, -1, 3, -1, -1, -1);
        Check.run("a(?:b)c", "abc", 0, 3, -1, -1, -1);
        Check.run("A", "a", -1, -1, -1);
        Check.run("(?::)", ":", 0, 1, -1);
    }

    private static void repeats() {
        Check.run("a*", "aab", 0, 2, 2, 2, 3);
        Check.run("a*?", "aab", 0, 2, 2, 2, 3);
        Check.run("a+", "baa", 1, -1, 3, 3, -1);
        Check.run("a+?", "baa", 1, -1, 3, 3, -1);
        Check.run("a?", "aa", 0, 1, 2, 2);
        Check.run("a??b", "ab", 0, 2, 2, -1);
        Check.run("a{2}", "aaaaa", 0, 2, 3, 4, 5, -1, -1);
        Check.run("a{2,}", "aaaa", 0, 4, 4, 4, -1, -1);
        Check.run("a{2,3}", "aaaa", 0, 3, 4, 4, -1, -1);
        Check.run("a{0}", "aa", 0, 0, 1, 2);
        Check.run("^(ab){2,3}$", "ab", -1, -1, -1, -1);
        Check.run("^(ab){2,3}$", "ababab", 0, 6, -1, -1, -1, -1, -1, -1);
        Check.run("^(ab){2,3}$", "abababab", -1, -1);
        Check.run("(a|bc){2,3}x", "abcbcx", 0, 6, 6, -1, -1, -1, -1, -1);
        Check.run("^a{50}$", "a".repeat(50), 0, 50);
        Check.run("^a{50}$", "a".repeat(51), -1, -1);
        Check.run("^a{50}$", "a".repeat(49), -1, -1);
        Check.run("^(a{0,7}){7}$", "a".repeat(49), 0, 49);
        Check.run("^(a{0,7}){7}$", "a".repeat(50), -1, -1);
        Check.run("(abc){0}d", "abcd", 3, -1, -1, -1, 4, -1);
        Check.run("[]{0}", "a", 0, 0, 1);
    }

    private static void emptyParts() {
        Check.run("", "ab", 0, 0, 1, 2);
        Check.run("", "", 0, 0);
        Check.run("|", "a", 0, 0, 1);
        Check.run("a|", "ba", 0, 0, 2, 2);
        Check.run("()", "a", 0, 0, 1);
        Check.run("()*a", "ba", 1, -1, 2, -1);
        Check.run("(|a)+b", "aab", 0, 3, 3, 3, -1);
        Check.run("(a*)*b", "aab", 0, 3, 3, 3, -1);
        Check.run("((a?)*|b*)+c", "abac", 0, 4, 4, 4, 4, -1);
        Check.run("(a?){50}", "aaa", 0, 3, 3, 3, 3);
        Check.run("a", "", -1, -1);
        Check.run("[]", "a", -1, -1, -1);
        Check.run("[]|a", "a", 0, 1, -1);
    }

    private static void beginAndEnd() {
        Check.run("^a", "aa", 0, 1, -1, -1);
        Check.run("a$", "aa", 1, -1, 2, -1);
        Check.run("^a$", "aa", -1, -1, -1, -1);
        Check.run("^", "a", 0, 0, -1);
        Check.run("$", "a", 1, -1, 1);
        Check.run("^$", "", 0, 0);
        Check.run("^$", "a", -1, -1, -1);
        Check.run("$^", "", 0, 0);
        Check.run("^^a$$", "a", 0, 1, -1);
        Check.run("a$b", "ab", -1, -1, -1, -1);
        Check.run("a^b", "ab", -1, -1, -1, -1);
        Check.run("^a", "\na", -1, -1, -1, -1);
        Check.run("a$", "a\n", -1, -1, -1, -1);
        Check.run("(^|b)a", "aba", 0, 1, 3, -1, -1);
        Check.run("(a|^)*b", "ab", 0, 2, 2, -1);
        Check.run("(a|$)+", "ba", 1, -1, 2, 2);
    }

    private static void places() {
        PatternJudge x = Check.judge("a", "aba");
        Check.due("longest before the beginning", () -> x.longest(-1), Check.OUT_OF_BOUNDS);
        Check.due("longest behind the end", () -> x.longest(4), Check.OUT_OF_BOUNDS);
        Check.due("longest far off", () -> x.longest(Integer.MAX_VALUE), Check.OUT_OF_BOUNDS);
        Check.due("longest far off", () -> x.longest(Integer.MIN_VALUE), Check.OUT_OF_BOUNDS);
        Check.due("longest at the end", () -> x.longest(3), -1);
        Check.due("longest at the last", () -> x.longest(2), 3);
        Check.due("asked twice", x::first, 0);
        Check.due("asked twice", x::first, 0);
    }

    private static void escapeSets() {
        for (int c : BLANKS) {
            bothWays("\\s", "\\S", c, true);
        }
        for (int c : NO_BLANKS) {
            bothWays("\\s", "\\S", c, false);
        }
        for (int c = 0; c < 0x300; c++) {
            boolean digit = c >= '0' && c <= '9';
            boolean word = digit || c >= 'a' && c <= 'z' || c >= 'A' && c <= 'Z' || c == '_';
            bothWays("\\d", "\\D", c, digit);
            bothWays("\\w", "\\W", c, word);
            Check.takes(".", c, c != 10 && c != 13);
        }
        for (int c : new int[] {0x660, 0x17F, 0x212A, 0xFF11, 0x10FFFF}) {
            bothWays("\\d", "\\D", c, false);
            bothWays("\\w", "\\W", c, false);
        }
        for (int c : new int[] {0x2027, 0x2028, 0x2029, 0x202A, 0x85, 0x10FFFF}) {
            Check.takes(".", c, c != 0x2028 && c != 0x2029);
        }
    }

    private static void bothWays(String small, String great, int c, boolean held) {
        Check.takes(small, c, held);
        Check.takes(great, c, !held);
        Check.takes("[x" + small + "]", c, held || c == 'x');
        Check.takes("[" + great + "]", c, !held);
        Check.takes("[^" + small + "]", c, !held);
        Check.takes("[^" + great + "]", c, held);
        Check.takes("[" + small + great + "]", c, true);
    }

    private static void singleEscapes() {
        only("\\t", 9);
        only("\\n", 10);
        only("\\v", 11);
        only("\\f", 12);
        only("\\r", 13);
        only("\\0", 0);
        only("\\x4A", 0x4A);
        only("\\xfF", 0xFF);
        only("\\u20aC", 0x20AC);
        only("\\u{0}", 0);
        only("\\u{0000000000061}", 0x61);
        only("\\u{10FFFF}", 0x10FFFF);
        for (char c : "^$\\.*+?()[]{}|/".toCharArray()) {
            only("\\" + c, c);
        }
        Check.takes("[\\b]", 8, true);
        Check.takes("[\\b]", 'b', false);
        Check.takes("[\\-]", '-', true);
        Check.takes("[\\-]", '\\', false);
        Check.run("\\x412", "A2", 0, 2, -1, -1);
        Check.run("\\u00412", "A2", 0, 2, -1, -1);
    }

    private static void only(String escape, int c) {
        for (String pattern : new String[] {escape, "[" + escape + "]", "[" + escape + "-" + escape + "]"}) {
            Check.takes(pattern, c, true);
            Check.takes(pattern, c == 0 ? 0x10FFFF : c - 1, false);
            Check.takes(pattern, c == 0x10FFFF ? 0 : c + 1, false);
        }
    }

    private static void sets() {
        Check.takesOnly("[abc]", "abc");
        Check.takesOnly("[b-d]", "bcd");
        Check.takesOnly("[b-b]", "b");
        Check.takesOnly("[a-cx-z]", "abcxyz");
        Check.takesOnly("[.*$^(|]", ".*$^(|");
        Check.takesOnly("[[]", "[");
        Check.takesOnly("[\\]]", "]");
        Check.takesOnly("[ab^]", "ab^");
        Check.takesOnly("[\\x61-\\u{63}]", "abc");
        Check.takes("[^a-c]", 'a', false);
        Check.takes("[^a-c]", 'c', false);
        Check.takes("[^a-c]", 'd', true);
        Check.takes("[^^]", '^', false);
        Check.takes("[^^]", 'a', true);
        Check.takes("[^a]", 10, true);
        Check.takes("[^]", 10, true);
        Check.takes("[^]", 0x10FFFF, true);
        Check.takes("[]", 0, false);
        Check.takes("[\\u{10000}-\\u{10FFFF}]", 0xFFFF, false);
        Check.takes("[\\u{10000}-\\u{10FFFF}]", 0x10FFFF, true);
        Check.takes("[\0-\\n]", 5, true);
    }

    private static void hyphens() {
        Check.takesOnly("[-a]", "-a");
        Check.takesOnly("[a-]", "-a");
        Check.takesOnly("[-]", "-");
        Check.takesOnly("[--]", "-");
        Check.takesOnly("[---]", "-");
        Check.takesOnly("[a-c-]", "abc-");
        Check.takesOnly("[a-c-e]", "abc-e");
        Check.takesOnly("[a-c-e-g]", "abc-efg");
        Check.takesOnly("[+--]", "+,-");
        Check.takesOnly("[--/]", "-./");
        Check.takesOnly("[a\\-c]", "a-c");
        Check.takesOnly("[\\d-]", "0123456789-");
        Check.takesOnly("[a-c-\\d]", "0123456789-abc");
        Check.takes("[^-a]", '-', false);
        Check.takes("[^-a]", 'b', true);
        Check.takes("[^a-]", '-', false);
    }

    /** The longest string, patterns that would take a search with many ways very long. */
    private static void greatest() {
        String much = "a".repeat(1200);
        Check.run("(a*)*b", much, -1, -1);
        Check.run("(a|aa)+$", much, 0, 1200);
        Check.run("(a?){50}a{50}b", much, -1, -1);
        Check.run("(a{0,12}|.){20}x", much, -1, -1);
        Check.run("b|$", much, 1200, -1);
        Check.run("a$", much, 1199, -1);
        Check.run("^" + "a?".repeat(199) + "$", much, -1, -1);
        Check.run("(?:a{0,1}){0,49}".repeat(3) + "a?".repeat(51), much, 0, 198);
        Check.run("(".repeat(30) + "a" + ")*".repeat(30), much, 0, 1200);
    }
}
