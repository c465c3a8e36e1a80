import java.util.ArrayList;
import java.util.List;
import java.util.function.IntPredicate;

/**
 * The sentences of "Terms" that tell the grammar and what its parts MATCH, one method for each:
 * where there are few enough cases, all of them. The sentences that name a boundary have their
 * methods in TermsBoundaryTest.
 */
public final class TermsTest {
    private static final int LAST = 0x10FFFF;
    /** So many characters can come to an object and be asked about, each by a call: 512 are allowed. */
    private static final int BLOCK = 240;
    private static final String SYNTAX = "^$\\.*+?()[]{}|";
    private static final String[] QUANTITIES = {"*", "+", "?", "{0}", "{1}", "{3}", "{0,}", "{2,}", "{0,0}", "{0,1}",
        "{0,3}", "{2,2}", "{2,3}"};

    public static void main(String[] args) {
        alternatives();
        rows();
        formsOfQuantities();
        lastQuestionMark();
        roundBrackets();
        plainCharacters();
        charactersOfSets();
        formsOfSets();
        escapesOutsideSets();
        escapesInSets();
        digits();
        words();
        blanks();
        anyCharacter();
        controlEscapes();
        twoHexadecimalDigits();
        fourHexadecimalDigits();
        hexadecimalDigitsInBraces();
        sizeOfOne();
        sizeWithQuantity();
        timesOfQuantities();
        Check.end("TermsTest");
    }

    private static void alternatives() {
        Check.sentence("D: A {\"|\" A} .. | one of both");
        Check.run("ab|cd", "abcd", 0, 2, -1, 4, -1, -1);
        Check.run("ab|cd|ef", "efcdab", 0, 2, -1, 4, -1, 6, -1, -1);
        Check.run("a|ab|abc", "abcd", 0, 3, -1, -1, -1, -1);
        Check.run("abc|ab|a", "abcd", 0, 3, -1, -1, -1, -1);
        Check.run("ab|cd", "adcb", -1, -1, -1, -1, -1, -1);
        // A | parts whole rows, not the two characters beside it.
        Check.run("^ab|cd$", "abxcd", 0, 2, -1, -1, 5, -1, -1);
        Check.run("a(b|c)d", "abdacd", 0, 3, -1, -1, 6, -1, -1, -1);
        Check.run("a(b|c)d", "ab", -1, -1, -1, -1);
        Check.run("x(a|b|c)*y", "xabcay", 0, 6, -1, -1, -1, -1, -1, -1);
        String all = "a";
        for (char c = 'b'; c <= 'z'; c++) {
            all += "|" + c;
        }
        Check.size(all, 51);
        Check.takesOnly(all, "abcdefghijklmnopqrstuvwxyz");
    }

    private static void rows() {
        Check.sentence("A: {\"^\" | \"$\" | T [Q]} .. rows one behind the other");
        Check.run("abc", "abcabc", 0, 3, -1, -1, 6, -1, -1, -1);
        Check.run("abc", "acbab", -1, -1, -1, -1, -1, -1, -1);
        Check.run("a[bc].\\d", "xacd1", 1, -1, 5, -1, -1, -1, -1);
        Check.run("a*b+c?", "aabbc", 0, 5, 5, 5, 5, -1, -1);
        Check.run("(ab)(cd)", "abcd", 0, 4, -1, -1, -1, -1);
        // ^ and $ may stand anywhere and any number of times.
        Check.run("^^^a$$$", "a", 0, 1, -1);
        Check.run("(^)a($)", "a", 0, 1, -1);
        Check.run("b*^a*$b*", "aa", 0, 2, -1, -1);
        Check.size("$^$^a^$", 7);
        for (String q : QUANTITIES) {
            Check.none("^" + q);
            Check.none("$" + q);
            Check.none("a^" + q);
            Check.none(q);
            Check.none("|" + q);
            Check.none("(" + q + ")");
            Check.size("(^)" + q + "(^){1}", 2 + sizeOf(q, 1));
        }
        // A Q belongs to the one T before it.
        Check.run("^ab*$", "abb", 0, 3, -1, -1, -1);
        Check.run("^ab*$", "abab", -1, -1);
        Check.run("^(ab)*$", "abab", 0, 4);
        Check.run("^a|b*$", "bb", 0, 2, 2, 2);
    }

    /** The SIZE of a part of SIZE once under a Q as it is written. */
    private static int sizeOf(String q, int once) {
        int n = least(q);
        int m = most(q);
        return Math.max(1, once * n + once * (m < 0 ? 1 : m - n)) + 1;
    }

    private static int least(String q) {
        return q.startsWith("{") ? Integer.parseInt(q.replaceAll("[{}]|,.*", "")) : q.equals("+") ? 1 : 0;
    }

    private static int most(String q) {
        if (!q.startsWith("{")) {
            return q.equals("?") ? 1 : -1;
        }
        String behind = q.replaceAll("[{}]", "").replaceAll(".*,", "");
        return behind.isEmpty() ? -1 : Integer.parseInt(behind);
    }

    private static void formsOfQuantities() {
        Check.sentence("Q: (\"*\" | \"+\" | \"?\" | \"{\" n [\",\" [m]] \"}\") [\"?\"]");
        for (String q : QUANTITIES) {
            Check.size("a" + q, sizeOf(q, 1));
            Check.size("a" + q + "?", sizeOf(q, 1));
            Check.none("a" + q + "??");
            for (String second : QUANTITIES) {
                if (!second.equals("?")) {
                    Check.none("a" + q + second);
                    Check.none("a" + q + "?" + second);
                }
            }
            for (int count = 0; count <= 5; count++) {
                boolean held = count >= least(q) && (most(q) < 0 || count <= most(q));
                Check.run("^a" + q + "$", "a".repeat(count), held ? 0 : -1, held ? count : -1);
            }
        }
        for (String wrong : new String[] {"{", "}", "{}", "{,}", "{,1}", "{1", "{1,", "{1,2", "{ 1}", "{1 }", "{1, 2}",
            "{+1}", "{-1}", "{1;2}", "{1,2,3}", "{1,,2}", "{a}", "{1a}", "{\\x31}", "{1\\x2c}", "{1\\}", "\\{1}"}) {
            Check.none("a" + wrong + "b");
        }
        Check.run("a\\{1\\}", "a{1}", 0, 4, -1, -1, -1, -1);
    }

    private static void lastQuestionMark() {
        Check.sentence("the last ? changes nothing");
        for (String q : QUANTITIES) {
            for (String t : new String[] {"a", "(a|b)", "[ab]", "."}) {
                for (String behind : new String[] {"", "a", "$", "b"}) {
                    for (String string : new String[] {"", "aaaa", "aabba", "cab"}) {
                        List<String> without = Check.allAnswers(Check.judge("(" + t + q + ")" + behind, string));
                        List<String> with = Check.allAnswers(Check.judge("(" + t + q + "?)" + behind, string));
                        // The lengths of the two patterns differ.
                        without.remove(0);
                        with.remove(0);
                        Check.due(t + q + "?" + behind + " over " + string, () -> with, without);
                    }
                }
            }
        }
    }

    private static void roundBrackets() {
        Check.sentence("\"(\" [\"?:\"] D \")\"");
        for (String inside : new String[] {"", "a", "ab", "a|b", "|", "(a)b", "^a$", "a*", "?:a"}) {
            boolean one = !inside.equals("?:a");
            for (String q : new String[] {"", "*", "+", "{2}"}) {
                if (!one) {
                    Check.none("(?:" + inside + ")" + q);
                    Check.size("(" + inside + ")" + q, q.isEmpty() ? 1 : sizeOf(q, 1));
                    continue;
                }
                for (String string : new String[] {"", "a", "abab", "b"}) {
                    List<String> plain = Check.allAnswers(Check.judge("(" + inside + ")" + q, string));
                    List<String> other = Check.allAnswers(Check.judge("(?:" + inside + ")" + q, string));
                    plain.remove(0);
                    other.remove(0);
                    Check.due("(?:" + inside + ")" + q + " over " + string, () -> other, plain);
                }
            }
        }
        for (String wrong : new String[] {"(?)", "(?a)", "(?=a)", "(?!a)", "(?<=a)", "(?<!a)", "(?<a>a)", "(?i:a)",
            "(??:)", "(* )", "(+)", "({1})", "(a", "a)", "((a)", "(a))", ")(", "(?:a", "(?", "(\\)", "([)]", "(]"}) {
            Check.none(wrong);
        }
        Check.run("([)])", ")", 0, 1, -1);
        Check.run("(\\))", ")", 0, 1, -1);
    }

    private static void plainCharacters() {
        Check.sentence("T: a character but ^ $ 92 . * + ? ( ) [ ] { } |");
        for (int c = 0; c < 0x300; c++) {
            plainCharacter(c);
        }
        for (int c : new int[] {0x2028, 0x2029, 0xD800, 0xDFFF, 0xFEFF, 0xFFFF, 0x10000, 0x1005C, LAST - 1, LAST}) {
            plainCharacter(c);
        }
        // Wherever it stands, a character that syntax uses elsewhere is itself.
        Check.run("a-c,:=!<>/1x", "a-c,:=!<>/1x", 0, 12);
        // Characters whose lowest octet is that of a character of the syntax.
        for (char c : SYNTAX.toCharArray()) {
            plainCharacter(0x100 + c);
            plainCharacter(0x10000 + c);
        }
    }

    private static void plainCharacter(int c) {
        PatternJudge x = new PatternJudge();
        x.letter(true, c);
        for (int other : new int[] {'!', c == 0 ? LAST : c - 1, c, c == LAST ? 0 : c + 1}) {
            x.letter(false, other);
        }
        String what = "the pattern of the character " + Integer.toHexString(c);
        if (c >= 128 || SYNTAX.indexOf(c) < 0) {
            Check.due("size, " + what, x::size, 1);
            Check.due("first, " + what, x::first, c == '!' ? 0 : 2);
            Check.due("longest(2), " + what, () -> x.longest(2), 3);
            Check.due("longest(1), " + what, () -> x.longest(1), -1);
            Check.due("longest(3), " + what, () -> x.longest(3), -1);
        } else if ("^$.|".indexOf(c) >= 0) {
            Check.due("size, " + what, x::size, 1);
            Check.due("longest(2), " + what, () -> x.longest(2), c == '.' ? 3 : c == '|' ? 2 : -1);
        } else {
            Check.due("size, " + what, x::size, Check.ILLEGAL);
        }
    }

    private static void charactersOfSets() {
        Check.sentence("C: a character but ] and 92");
        for (int c = 0; c < 0x180; c++) {
            if (c == ']' || c == '\\') {
                continue;
            }
            String text = Character.toString(c);
            for (String pattern : new String[] {"[x" + text + "]", "[" + text + "x]", "[x" + text + "-" + text + "]"}) {
                // First, ^ is no C but turns the set round; a - would make a range with the x.
                if (!pattern.startsWith("[^") && !pattern.equals("[x---]")) {
                    Check.takes(pattern, c, true);
                    Check.takes(pattern, c == 'x' ? 'y' : 'x', c != 'x');
                    Check.takes(pattern, c ^ 1, (c ^ 1) == 'x');
                }
            }
        }
        Check.takesOnly("[^-`]", charactersBut("-`"));
        Check.none("[x\\]");
        Check.none("[\\]");
        Check.none("[x]]");
        Check.takesOnly("[x[]", "x[");
        Check.takesOnly("[x\\\\]", "x\\");
    }

    private static String charactersBut(String some) {
        StringBuilder all = new StringBuilder();
        for (char c = 0; c < 128; c++) {
            if (some.indexOf(c) < 0) {
                all.append(c);
            }
        }
        return all.toString();
    }

    private static void formsOfSets() {
        Check.sentence("\"[\" [\"^\"] {R} \"]\" .. R: C [\"-\" C] .. \"[\" \"^\" any but those");
        Check.takesOnly("[ac-eg]", "acdeg");
        Check.takesOnly("[c-ea-b]", "abcde");
        Check.takesOnly("[a-da-db]", "abcd");
        Check.takesOnly("[a-cb-d]", "abcd");
        Check.takesOnly("[0-9A-Fa-f]", "0123456789ABCDEFabcdef");
        Check.takesOnly("[^ac-eg]", charactersBut("acdeg"));
        Check.takesOnly("[^\\d\\s_]", charactersBut("0123456789_ \t\n\u000b\f\r"));
        Check.takesOnly("[^\\W\\d]", "ABCDEFGHIJKLMNOPQRSTUVWXYZ_abcdefghijklmnopqrstuvwxyz");
        Check.takesOnly("[^\\n]", charactersBut("\n"));
        Check.takesOnly("[\\D]", charactersBut("0123456789"));
        Check.takesOnly("[a\\Db0-3]", charactersBut("456789"));
        Check.takesOnly("[^a\\D]", "0123456789");
        // One character of THE STRING, not more and not less.
        Check.run("[ab]", "abc", 0, 1, 2, -1, -1);
        Check.run("[^ab]", "abc", 2, -1, -1, 3, -1);
        Check.run("[ab]", "", -1, -1);
        Check.run("[^ab]", "", -1, -1);
        // Many ranges in one set.
        StringBuilder many = new StringBuilder("[");
        for (int c = 0x400; c < 0x400 + 4 * 110; c += 4) {
            many.append((char) c).append('-').append((char) (c + 2)).append((char) (c + 2));
        }
        String set = many.append("]").toString();
        for (int c = 0x3FF; c <= 0x400 + 4 * 110; c++) {
            Check.takes(set, c, c >= 0x400 && c < 0x400 + 4 * 110 && c % 4 != 3);
        }
    }

    private static void escapesOutsideSets() {
        Check.sentence("ESCAPE: d D w W s S .. t n v f r .. 0 .. ^ $ 92 . * + ? ( ) [ ] { } | / .. x .. u");
        for (int c = 0; c < 0x300; c++) {
            String pattern = "\\" + Character.toString(c);
            if (c < 128 && "dDwWsStnvfr0^$\\.*+?()[]{}|/".indexOf(c) >= 0) {
                Check.size(pattern, 1);
            } else {
                Check.none(pattern);
            }
        }
        Check.none("\\");
        Check.none("a\\");
        Check.size("\\x41", 1);
        Check.size("\\u0041", 1);
        Check.size("\\u{41}", 1);
        for (char c : "^$\\.*+?()[]{}|/".toCharArray()) {
            Check.takesOnly("\\" + c, String.valueOf(c));
        }
    }

    private static void escapesInSets() {
        Check.sentence("C: 92 ESCAPE, 92 \"-\", 92 \"b\" (8)");
        for (int c = 0; c < 0x300; c++) {
            String pattern = "[\\" + Character.toString(c) + "]";
            if (c < 128 && "dDwWsStnvfr0^$\\.*+?()[]{}|/-b".indexOf(c) >= 0 && c != ']') {
                Check.size(pattern, 1);
            } else if (c != ']') {
                Check.none(pattern);
            }
        }
        for (char c : "^$\\.*+?()[]{}|/-".toCharArray()) {
            Check.takesOnly("[\\" + c + "]", String.valueOf(c));
        }
        Check.takesOnly("[\\b]", "\b");
        Check.takesOnly("[\\x41\\u0042\\u{43}]", "ABC");
        Check.none("[\\x4]");
        Check.none("[\\u004]");
        Check.none("[\\u{}]");
    }

    private static void digits() {
        Check.sentence("d D (digits 0-9 .. the great letter: all others)");
        family("\\d", "\\D", c -> c >= '0' && c <= '9');
    }

    private static void words() {
        Check.sentence("w W (these, a-z A-Z _ .. the great letter: all others)");
        family("\\w", "\\W", c -> c >= '0' && c <= '9' || c >= 'a' && c <= 'z' || c >= 'A' && c <= 'Z' || c == '_');
    }

    private static void blanks() {
        Check.sentence("s S (blanks 9 to 13, 32, A0, 1680, 2000 to 200A, 2028, 2029, 202F, 205F, 3000, FEFF"
                + " .. the great letter: all others)");
        List<Integer> all = new ArrayList<>(List.of(9, 10, 11, 12, 13, 32, 0xA0, 0x1680, 0x2028, 0x2029, 0x202F, 0x205F,
                0x3000, 0xFEFF));
        for (int c = 0x2000; c <= 0x200A; c++) {
            all.add(c);
        }
        family("\\s", "\\S", all::contains);
    }

    private static void anyCharacter() {
        Check.sentence("\".\" is any character but 10, 13, 2028, 2029");
        family(".", "[\\n\\r\\u2028\\u2029]", c -> c != 10 && c != 13 && c != 0x2028 && c != 0x2029);
    }

    /** Of all characters there are, pattern takes just those that are held, and others the others. */
    private static void family(String pattern, String others, IntPredicate held) {
        for (int from = 0; from <= LAST; from += BLOCK) {
            block(pattern, from, held);
            block(others, from, held.negate());
        }
    }

    private static void block(String pattern, int from, IntPredicate held) {
        PatternJudge x = new PatternJudge();
        Check.put(x, true, pattern);
        int length = Math.min(BLOCK, LAST + 1 - from);
        int count = 0;
        int first = -1;
        for (int i = length - 1; i >= 0; i--) {
            boolean one = held.test(from + i);
            first = one ? i : first;
            count += one ? 1 : 0;
        }
        for (int i = 0; i < length; i++) {
            x.letter(false, from + i);
        }
        String what = pattern + " over the characters from " + Integer.toHexString(from);
        Check.due("first, " + what, x::first, first);
        if (count == length) {
            x.clear(true);
            Check.put(x, true, "^(" + pattern + ")*$");
            Check.due("all of them, " + what, () -> x.longest(0), length);
        } else if (count > 0) {
            for (int i = 0; i < length; i++) {
                int at = i;
                Check.due("longest(" + i + "), " + what, () -> x.longest(at), held.test(from + i) ? i + 1 : -1);
            }
        }
    }

    private static void controlEscapes() {
        Check.sentence("t n v f r (9, 10, 11, 12, 13), 0");
        String letters = "tnvfr0";
        int[] characters = {9, 10, 11, 12, 13, 0};
        for (int i = 0; i < characters.length; i++) {
            String only = String.valueOf((char) characters[i]);
            Check.takesOnly("\\" + letters.charAt(i), only);
            Check.takesOnly("[\\" + letters.charAt(i) + "]", only);
            Check.takesOnly("[^\\" + letters.charAt(i) + "]", charactersBut(only));
        }
    }

    private static void twoHexadecimalDigits() {
        Check.sentence("x and two hexadecimal digits (small or great letters)");
        for (String form : new String[] {"\\x%02x", "\\x%02X"}) {
            inRows(form, 0, 255, 1, 100);
        }
        Check.takesOnly("\\x4a", "J");
        Check.takesOnly("\\x4A", "J");
        Check.takes("\\xaF", 0xAF, true);
        Check.takes("\\xFa", 0xFA, true);
        Check.none("\\xx41");
        Check.none("\\x 41");
        Check.none("\\X41");
    }

    private static void fourHexadecimalDigits() {
        Check.sentence("u and four");
        for (String form : new String[] {"\\u%04x", "\\u%04X"}) {
            inRows(form, 0, 0xFFFF, 1, 100);
        }
        // A pair is two characters, as it stands.
        Check.size("\\uD83D\\uDE00", 2);
        Check.none("\\uu0041");
        Check.none("\\U0041");
    }

    private static void hexadecimalDigitsInBraces() {
        Check.sentence("u { digits } (hexadecimal)");
        for (String form : new String[] {"\\u{%x}", "\\u{%X}", "\\u{00%x}"}) {
            inRows(form, 0, 0x400, 1, 40);
            inRows(form, 0x401, LAST, 0x1FF, 40);
        }
    }

    /** The characters from first to last, some to a pattern, each written in the form. */
    private static void inRows(String form, int first, int last, int step, int some) {
        for (int c = first; c <= last; c += some * step) {
            PatternJudge x = new PatternJudge();
            int count = 0;
            for (; count < some && c + count * step <= last; count++) {
                Check.put(x, true, String.format(form, c + count * step));
                x.letter(false, c + count * step);
            }
            int all = count;
            String what = count + " of the form " + form + " from " + Integer.toHexString(c);
            Check.due("size of " + what, x::size, all);
            Check.due("longest(0) of " + what, () -> x.longest(0), all);
        }
    }

    private static void sizeOfOne() {
        Check.sentence("SIZE: a T that is no (, a \"^\", \"$\", \"|\" is 1");
        String[] ones = {"a", ".", "[]", "[^]", "[abc]", "[^a-z\\d]", "\\d", "\\W", "\\n", "\\0", "\\^", "\\x41",
            "\\u0041", "\\u{10FFFF}", "^", "$", "|", "\0", "-", "/"};
        String all = "";
        for (int i = 0; i < ones.length; i++) {
            Check.size(ones[i], 1);
            Check.size("(" + ones[i] + ")", 1);
            Check.size(ones[i] + ones[i], 2);
            all += ones[i];
            Check.size(all, i + 1);
            Check.size("(?:((" + all + ")))", i + 1);
        }
    }

    private static void sizeWithQuantity() {
        Check.sentence("with Q: n times, and for m (m - n) times, for no m once, more, and 1");
        PatternJudge x = new PatternJudge();
        int calls = 0;
        String[] parts = {"a", "(ab)", "(a|b)", "(?:a{2})", "(a*b)"};
        int[] once = {1, 2, 3, 3, 3};
        for (int p = 0; p < parts.length; p++) {
            List<String> all = new ArrayList<>(List.of("*", "+", "?"));
            for (int n = 0; n <= 50; n++) {
                all.add("{" + n + "}");
                all.add("{" + n + ",}");
                for (int m = n; m <= 50; m++) {
                    all.add("{" + n + "," + m + "}");
                }
            }
            for (String q : all) {
                if (calls > 490) {
                    x = new PatternJudge();
                    calls = 0;
                }
                x.clear(true);
                String pattern = parts[p] + q;
                Check.put(x, true, pattern);
                calls += 2 + (pattern.length() + 7) / 8;
                Check.due("size of " + pattern, x::size, sizeOf(q, once[p]));
            }
        }
    }

    private static void timesOfQuantities() {
        Check.sentence("Q: n times at least, m at most (no m: any number of times)");
        for (int n = 0; n <= 50; n++) {
            for (int m = n; m <= 51; m++) {
                // 51 stands for no m.
                String q = m == 51 ? "{" + n + ",}" : n == m ? "{" + n + "}" : "{" + n + "," + m + "}";
                PatternJudge x = Check.judge("^a" + q + "$", "a".repeat(Math.max(0, n - 1)));
                Check.due("a" + q + ", one less than n", x::matches, n == 0);
                Check.put(x, false, n == 0 ? "" : "a");
                Check.due("a" + q + ", n", x::matches, true);
                Check.put(x, false, "a".repeat(m - n));
                Check.due("a" + q + ", m", x::matches, true);
                Check.put(x, false, "a");
                Check.due("a" + q + ", one more than m", x::matches, m == 51);
            }
        }
    }
}
