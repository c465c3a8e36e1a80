/**
 * The boundary cases that the document's "Terms" name, one method for each of its sentences: the
 * last value that is allowed, the first one that is not, and that a refused call changes nothing
 * (Check.none and Check.refused ask for that each time).
 */
public final class TermsBoundaryTest {
    private static final int LAST = 0x10FFFF;

    public static void main(String[] args) {
        patternLength();
        emptyAlternatives();
        digitsOfQuantities();
        greatestQuantities();
        orderOfQuantities();
        orderOfRanges();
        noSetsInRanges();
        hyphens();
        emptySet();
        zeroEscape();
        hexadecimalOfBraces();
        greatestOfBraces();
        hexadecimalOfFixedLength();
        negatedSets();
        depth();
        sizeAtLeastOne();
        greatestSize();
        stringLength();
        timesAtLeast();
        timesAtMost();
        anyNumberOfTimes();
        beginning();
        end();
        firstNamedException();
        nothingChanges();
        Check.end("TermsBoundaryTest");
    }

    private static void patternLength() {
        Check.sentence("THE PATTERN (up to 600 characters)");
        Check.size("()".repeat(299) + "a", 1);
        Check.size("()".repeat(300), 0);
        String longest = "[" + "b".repeat(597) + "a]";
        Check.run(longest, "xa", 1, -1, 2, -1);
        PatternJudge x = Check.judge(longest, "xa");
        Check.due("length", () -> x.letters(true, 0L), 600);
        Check.refused(x, "letter 601", () -> x.letter(true, 'c'), Check.OUT_OF_BOUNDS);
        Check.refused(x, "letters 601", () -> x.letters(true, 0x6300000000000000L), Check.OUT_OF_BOUNDS);
        Check.refused(x, "letters 608", () -> x.letters(true, 0x6363636363636363L), Check.OUT_OF_BOUNDS);
        Check.due("it still takes a", x::first, 1);
    }

    private static void emptyAlternatives() {
        Check.sentence("an A may be empty, too: that MATCHES what is empty");
        Check.size("", 0);
        Check.size("|", 1);
        Check.size("||", 2);
        Check.size("a|", 2);
        Check.size("|a", 2);
        Check.size("()", 0);
        Check.size("(?:)", 0);
        Check.size("(|)", 1);
        for (String pattern : new String[] {"", "|", "||", "()", "(?:)", "(|)", "(?:|)", "(())"}) {
            Check.run(pattern, "", 0, 0);
            Check.run(pattern, "ab", 0, 0, 1, 2);
        }
        Check.run("a|", "ba", 0, 0, 2, 2);
        Check.run("|a", "ba", 0, 0, 2, 2);
        Check.run("b||a", "ba", 0, 1, 2, 2);
        Check.run("^(|a)b$", "b", 0, 1, -1);
        Check.run("^(|a)b$", "ab", 0, 2, -1, -1);
        Check.run("^(a|)b$", "aab", -1, -1, -1, -1, -1);
        // No A, but a Q without its T.
        Check.none("*");
        Check.none("|*");
        Check.none("(*)");
        Check.none("(|?)");
    }

    private static void digitsOfQuantities() {
        Check.sentence("n, m up to 3 digits");
        Check.size("a{3}", 4);
        Check.size("a{03}", 4);
        Check.size("a{003}", 4);
        Check.none("a{0003}");
        Check.size("a{003,}", 5);
        Check.none("a{0003,}");
        Check.size("a{003,4}", 5);
        Check.none("a{0003,4}");
        Check.size("a{3,004}", 5);
        Check.none("a{3,0004}");
        Check.size("a{000}", 2);
        Check.none("a{0000}");
        Check.none("a{}");
        Check.none("a{,}");
        Check.none("a{,3}");
        Check.none("a{3,4,}");
        Check.none("a{3/}");
        Check.none("a{3:}");
        Check.none("a{3,/}");
        Check.none("a{3,:}");
    }

    private static void greatestQuantities() {
        Check.sentence("at most 50");
        Check.size("a{50}", 51);
        Check.none("a{51}");
        Check.size("a{050}", 51);
        Check.none("a{051}");
        Check.size("a{50,}", 52);
        Check.none("a{51,}");
        Check.size("a{0,50}", 51);
        Check.none("a{0,51}");
        Check.size("a{50,50}", 51);
        Check.none("a{50,51}");
        Check.none("a{51,50}");
        Check.none("a{51,51}");
        Check.none("a{100}");
        Check.none("a{999}");
        Check.none("a{0,999}");
        // These would be allowed numbers, wrapped round.
        Check.none("a{257}");
        Check.none("a{4294967297}");
        Check.none("a{18446744073709551617}");
        Check.run("^a{50}$", "a".repeat(49), -1, -1);
        Check.run("^a{50}$", "a".repeat(50), 0, 50);
        Check.run("^a{50}$", "a".repeat(51), -1, -1);
        Check.run("^a{0,50}$", "a".repeat(50), 0, 50);
        Check.run("^a{0,50}$", "a".repeat(51), -1, -1);
        Check.run("^a{50,}$", "a".repeat(49), -1, -1);
        Check.run("^a{50,}$", "a".repeat(1200), 0, 1200);
    }

    private static void orderOfQuantities() {
        Check.sentence("n not above m");
        Check.size("a{0,0}", 2);
        Check.none("a{1,0}");
        Check.size("a{1,2}", 3);
        Check.size("a{2,2}", 3);
        Check.none("a{3,2}");
        Check.none("a{3,2}?");
        Check.none("a{3,002}");
        Check.none("a{50,49}");
        Check.none("(a{3,2}){0}");
        Check.none("a{10,9}");
        Check.size("a{9,10}", 11);
        Check.run("a{2,2}", "aaa", 0, 2, 3, -1, -1);
    }

    private static void orderOfRanges() {
        Check.sentence("the first one not above the other one");
        Check.takesOnly("[b-b]", "b");
        Check.takesOnly("[b-c]", "bc");
        Check.none("[b-a]");
        Check.none("[^b-a]");
        Check.none("[xb-a]");
        Check.none("[0-9b-a]");
        Check.size("[\\x61-\\u0061]", 1);
        Check.none("[\\x61-\\u0060]");
        Check.takes("[\\0-\\0]", 0, true);
        Check.takes("[\\0-\\0]", 1, false);
        Check.none("[\\x01-\\0]");
        Check.takes("[\\u{10FFFF}-\\u{10FFFF}]", LAST, true);
        Check.takes("[\\u{10FFFF}-\\u{10FFFF}]", LAST - 1, false);
        Check.none("[\\u{10FFFF}-\\u{10FFFE}]");
        Check.takes("[\\0-\\u{10FFFF}]", 0, true);
        Check.takes("[\\0-\\u{10FFFF}]", LAST, true);
        Check.takes("[\\b-\\t]", 8, true);
        Check.none("[\\t-\\b]");
        Check.takesOnly("[\\--.]", "-.");
        Check.none("[.-\\-]");
        // Each octet of the lower end is greater, the number itself is not.
        Check.takes("[\\u01FF-\\u0200]", 0x200, true);
        Check.none("[\\u0200-\\u01FF]");
        Check.none("[\uFFFF-a]");
    }

    private static void noSetsInRanges() {
        Check.sentence("neither a set then");
        for (String set : new String[] {"\\d", "\\D", "\\w", "\\W", "\\s", "\\S"}) {
            Check.none("[" + set + "-z]");
            Check.none("[a-" + set + "]");
            Check.none("[\\0-" + set + "]");
            Check.none("[" + set + "-\\u{10FFFF}]");
            Check.none("[" + set + "-" + set + "]");
            Check.none("[" + set + "--]");
            Check.none("[--" + set + "]");
            Check.none("[x" + set + "-z]");
            Check.size("[" + set + "]", 1);
            Check.size("[" + set + "z]", 1);
            Check.size("[" + set + "-]", 1);
            Check.size("[-" + set + "]", 1);
            Check.size("[a-c-" + set + "]", 1);
            Check.size("[" + set + "\\-z]", 1);
        }
        Check.takesOnly("[\\d-]", "0123456789-");
        Check.takesOnly("[\\d\\-z]", "0123456789-z");
        // In a set, "." is itself.
        Check.takesOnly("[.-/]", "./");
    }

    private static void hyphens() {
        Check.sentence("a \"-\" that is last or first, or behind a range, is itself");
        Check.takesOnly("[-a]", "-a");
        Check.takesOnly("[a-]", "a-");
        Check.takesOnly("[-]", "-");
        Check.takesOnly("[--]", "-");
        Check.takesOnly("[-a-]", "-a");
        Check.takesOnly("[-a-c]", "-abc");
        Check.takesOnly("[a-c-]", "abc-");
        Check.takesOnly("[a-c-e]", "abc-e");
        Check.takesOnly("[a-c-e-g]", "abc-efg");
        Check.takesOnly("[a-c-\\d]", "abc-0123456789");
        Check.takesOnly("[a-c--]", "abc-");
        Check.takes("[^-a]", '-', false);
        Check.takes("[^-a]", '^', true);
        Check.takes("[^a-]", '-', false);
        Check.takes("[^-]", '-', false);
        Check.takes("[^-]", 'a', true);
        Check.takes("[^a-c-e]", '-', false);
        Check.takes("[^a-c-e]", 'd', true);
        // Neither last nor first nor behind a range: it makes a range.
        Check.takesOnly("[ab-d]", "abcd");
        Check.takesOnly("[---]", "-");
        Check.takesOnly("[--/]", "-./");
        Check.takesOnly("[+--]", "+,-");
        Check.none("[a--]");
        Check.none("[c-a]");
        // An escaped one never makes a range.
        Check.takesOnly("[c\\-a]", "c-a");
    }

    private static void emptySet() {
        Check.sentence("\"[\" \"]\" has no character");
        Check.size("[]", 1);
        Check.takesOnly("[]", "");
        Check.takes("[]", LAST, false);
        Check.run("[]", "", -1, -1);
        Check.run("a[]", "ab", -1, -1, -1, -1);
        Check.run("[]*", "a", 0, 0, 1);
        Check.run("[]+", "a", -1, -1, -1);
        Check.run("[]{0}", "a", 0, 0, 1);
        Check.run("[]|a", "ba", 1, -1, 2, -1);
        Check.none("[]]");
        Check.none("[]a]");
        Check.none("[");
        Check.takesOnly("[\\]]", "]");
    }

    private static void zeroEscape() {
        Check.sentence("0 (no digit behind)");
        Check.takes("\\0", 0, true);
        Check.takes("\\0", '0', false);
        Check.takes("[\\0]", 0, true);
        Check.takes("[\\0]", '0', false);
        for (char c = '0'; c <= '9'; c++) {
            Check.none("\\0" + c);
            Check.none("[\\0" + c + "]");
        }
        // A hexadecimal digit is no digit here.
        Check.run("\\0a", "\0a", 0, 2, -1, -1);
        Check.run("\\0F", "\0F", 0, 2, -1, -1);
        // The characters next to the digits.
        Check.run("\\0/", "\0/", 0, 2, -1, -1);
        Check.run("\\0:", "\0:", 0, 2, -1, -1);
        Check.run("\\0\\d", "\0" + "7", 0, 2, -1, -1);
        Check.run("\\0{2}", "\0\0", 0, 2, -1, -1);
        Check.run("\\0\\x30", "\0" + "0", 0, 2, -1, -1);
        Check.takes("[\\0-9]", '5', true);
        Check.size("\\0\u0660", 2);
    }

    private static void hexadecimalOfBraces() {
        Check.sentence("u { digits } (hexadecimal, one at least");
        Check.none("\\u{}");
        Check.none("[\\u{}]");
        only("\\u{0}", 0);
        only("\\u{9}", 9);
        only("\\u{a}", 10);
        only("\\u{f}", 15);
        only("\\u{A}", 10);
        only("\\u{F}", 15);
        only("\\u{61}", 0x61);
        // The characters next to the hexadecimal digits.
        for (char c : "/:@G`g".toCharArray()) {
            Check.none("\\u{" + c + "}");
            Check.none("\\u{6" + c + "}");
        }
        Check.none("\\u{-1}");
        Check.none("\\u{61,}");
        Check.none("\\u{61");
        Check.none("\\u{");
        only("\\u{" + "0".repeat(250) + "61}", 0x61);
        Check.none("\\u{" + "0".repeat(597));
        Check.run("\\u{61}{2}", "aaa", 0, 2, 3, -1, -1);
    }

    private static void greatestOfBraces() {
        Check.sentence("up to 10FFFF");
        only("\\u{10FFFF}", LAST);
        only("\\u{10ffff}", LAST);
        only("\\u{10FFFE}", LAST - 1);
        only("\\u{0000000010FFFF}", LAST);
        Check.none("\\u{110000}");
        Check.none("\\u{0000000110000}");
        Check.none("[\\u{110000}]");
        Check.none("[\\0-\\u{110000}]");
        Check.none("\\u{200000}");
        Check.none("\\u{FFFFFF}");
        Check.none("\\u{FFFFFFFF}");
        // These would be a character, wrapped round.
        Check.none("\\u{100000061}");
        Check.none("\\u{10000000000000061}");
        Check.none("\\u{" + "1" + "0".repeat(590) + "}");
    }

    private static void hexadecimalOfFixedLength() {
        Check.sentence("x and two hexadecimal digits (small or great letters), u and four");
        only("\\x00", 0);
        only("\\xff", 0xFF);
        only("\\xFF", 0xFF);
        only("\\u0000", 0);
        only("\\uffff", 0xFFFF);
        only("\\uFFFF", 0xFFFF);
        only("\\uD800", 0xD800);
        Check.run("\\x616", "a6", 0, 2, -1, -1);
        Check.run("\\u00616", "a6", 0, 2, -1, -1);
        Check.none("\\x");
        Check.none("\\x6");
        Check.none("\\u");
        Check.none("\\u006");
        Check.none("\\x{61}");
        for (char c : "/:@G`g".toCharArray()) {
            Check.none("\\x" + c + "6");
            Check.none("\\x6" + c);
            Check.none("\\u" + c + "061");
            Check.none("\\u006" + c);
        }
    }

    /** As a T, as a C, and as both ends of a range: this character and neither of its neighbours. */
    private static void only(String escape, int c) {
        for (String pattern : new String[] {escape, "[" + escape + "]", "[" + escape + "-" + escape + "]"}) {
            Check.takes(pattern, c, true);
            Check.takes(pattern, c == 0 ? LAST : c - 1, false);
            Check.takes(pattern, c == LAST ? 0 : c + 1, false);
        }
    }

    private static void negatedSets() {
        Check.sentence("\"[\" \"^\" any but those");
        Check.size("[^]", 1);
        for (int c : new int[] {0, 10, 13, '^', ']', 0x2028, 0xD800, 0xFFFF, 0x10000, LAST}) {
            Check.takes("[^]", c, true);
        }
        Check.run("[^]", "", -1, -1);
        Check.takes("[^b-d]", 'a', true);
        Check.takes("[^b-d]", 'b', false);
        Check.takes("[^b-d]", 'd', false);
        Check.takes("[^b-d]", 'e', true);
        Check.takes("[^b]", 10, true);
        Check.takes("[^\\d\\D]", 'a', false);
        Check.takes("[^\\d\\D]", '1', false);
        Check.takes("[^\\0-\\u{10FFFF}]", 0, false);
        Check.takes("[^\\0-\\u{10FFFF}]", LAST, false);
        Check.takes("[^^]", '^', false);
        Check.takes("[^^]", 'a', true);
        // Not first: itself.
        Check.takesOnly("[a^]", "a^");
        Check.takesOnly("[\\^a]", "a^");
        Check.none("[^");
        Check.none("[^]]");
    }

    private static void depth() {
        Check.sentence("At most 30 of ( in one another");
        for (String opening : new String[] {"(", "(?:"}) {
            Check.size(nested(opening, 29, "a"), 1);
            Check.size(nested(opening, 30, "a"), 1);
            Check.none(nested(opening, 31, "a"));
            Check.size(nested(opening, 30, ""), 0);
            Check.none(nested(opening, 31, ""));
            Check.run(nested(opening, 30, "ab|c"), "xab", 1, -1, 3, -1, -1);
        }
        Check.none(nested("(", 15, nested("(?:", 16, "a")));
        Check.none(nested("(", 300, ""));
        Check.none("(".repeat(600));
        Check.none("a|b" + nested("(", 31, "a"));
        Check.none("(" + nested("(", 30, "a") + "){0}");
        // One behind the other: not in one another.
        Check.size("(a)".repeat(31), 31);
        Check.size("(" + nested("(", 29, "a") + nested("(", 29, "b") + ")", 2);
        Check.size(nested("(", 30, "a") + "|" + nested("(", 30, "b"), 3);
        // Not a ( of the grammar.
        Check.size(nested("(", 30, "\\("), 1);
        Check.size(nested("(", 30, "[(]"), 1);
    }

    private static String nested(String opening, int times, String inside) {
        return opening.repeat(times) + inside + ")".repeat(times);
    }

    private static void sizeAtLeastOne() {
        Check.sentence("(that is 1 at least)");
        Check.size("a{0}", 2);
        Check.size("a{0,0}", 2);
        Check.size("a{1}", 2);
        Check.size("a{0,1}", 2);
        Check.size("a{0,2}", 3);
        Check.size("a{0,}", 2);
        Check.size("a{1,}", 3);
        Check.size("(ab){0}", 2);
        Check.size("(ab){1}", 3);
        Check.size("()", 0);
        Check.size("(){0}", 2);
        Check.size("(){1}", 2);
        Check.size("(){50}", 2);
        Check.size("()*", 2);
        Check.size("()+", 2);
        Check.size("()?", 2);
        Check.size("(()?){3}", 7);
    }

    private static void greatestSize() {
        Check.sentence("more than 400 in all: it is none");
        Check.size("a".repeat(399), 399);
        Check.size("a".repeat(400), 400);
        Check.none("a".repeat(401));
        Check.size("^".repeat(400), 400);
        Check.none("^".repeat(401));
        Check.size("$".repeat(400), 400);
        Check.none("$".repeat(401));
        Check.size("|".repeat(400), 400);
        Check.none("|".repeat(401));
        Check.size("a|".repeat(200), 400);
        Check.none("a|".repeat(200) + "a");
        Check.size("a*".repeat(200), 400);
        Check.none("a*".repeat(200) + "a");
        Check.size("(a{50}){7}" + "a".repeat(42), 400);
        Check.none("(a{50}){7}" + "a".repeat(43));
        Check.size("(a{6}){50,}" + "a".repeat(42), 400);
        Check.none("(a{6}){50,}" + "a".repeat(43));
        Check.size("(a{20}){0,19}", 400);
        Check.none("(a{20}){0,20}");
        Check.size("(" + "a".repeat(399) + ")?", 400);
        Check.none("(" + "a".repeat(400) + ")?");
        Check.size("(" + "a".repeat(399) + "){1}", 400);
        Check.none("(" + "a".repeat(400) + "){1}");
        // Sizes that would be small again, wrapped round.
        Check.none("((((((a{50}){50}){50}){50}){50}){50}){50}");
        Check.none("(".repeat(29) + "a" + "){50}".repeat(29));
        Check.run("a".repeat(400), "a".repeat(401), 0, 400, 401, -1);
    }

    private static void stringLength() {
        Check.sentence("THE STRING (up to 1200 characters)");
        String string = "a".repeat(1199) + "b";
        PatternJudge x = Check.judge("b$|c", string);
        Check.due("length", () -> x.letters(false, 0L), 1200);
        Check.due("first of 1200", x::first, 1199);
        Check.refused(x, "letter 1201", () -> x.letter(false, 'c'), Check.OUT_OF_BOUNDS);
        Check.refused(x, "letters 1201", () -> x.letters(false, 0x6300000000000000L), Check.OUT_OF_BOUNDS);
        Check.refused(x, "letters 1208", () -> x.letters(false, 0x6363636363636363L), Check.OUT_OF_BOUNDS);
        Check.due("first after refusals", x::first, 1199);
        Check.due("longest(1199)", () -> x.longest(1199), 1200);
        Check.due("longest(1200)", () -> x.longest(1200), -1);
        Check.refused(x, "longest(1201)", () -> x.longest(1201), Check.OUT_OF_BOUNDS);
        Check.run("^a*b$", string, 0, 1200, -1);
    }

    private static void timesAtLeast() {
        Check.sentence("n times at least");
        for (String q : new String[] {"{3}", "{3,}", "{3,5}", "{3}?", "{3,}?", "{3,5}?"}) {
            Check.run("^a" + q + "$", "aa", -1, -1, -1, -1);
            Check.run("^a" + q + "$", "aaa", 0, 3, -1, -1, -1);
            Check.run("^(ab)" + q + "$", "abab", -1, -1);
            Check.run("^(ab)" + q + "$", "ababab", 0, 6);
        }
        for (String q : new String[] {"+", "+?", "{1}", "{1,}", "{1,2}"}) {
            Check.run("^a" + q + "$", "", -1, -1);
            Check.run("^a" + q + "$", "a", 0, 1, -1);
        }
        for (String q : new String[] {"*", "*?", "?", "??", "{0}", "{0,}", "{0,2}"}) {
            Check.run("^a" + q + "$", "", 0, 0);
        }
    }

    private static void timesAtMost() {
        Check.sentence("m at most");
        for (String q : new String[] {"{3}", "{2,3}", "{0,3}", "{3}?", "{2,3}?"}) {
            Check.run("^a" + q + "$", "aaa", 0, 3, -1, -1, -1);
            Check.run("^a" + q + "$", "aaaa", -1, -1, -1, -1, -1, -1);
            Check.run("^(ab)" + q + "$", "ababab", 0, 6);
            Check.run("^(ab)" + q + "$", "abababab", -1, -1);
        }
        for (String q : new String[] {"?", "??", "{0,1}", "{1}"}) {
            Check.run("^a" + q + "$", "a", 0, 1, -1);
            Check.run("^a" + q + "$", "aa", -1, -1, -1, -1);
        }
        Check.run("^a{0}$", "", 0, 0);
        Check.run("^a{0}$", "a", -1, -1, -1);
        // A round that takes nothing is a round, too.
        Check.run("^(a?){3}$", "aaa", 0, 3);
        Check.run("^(a?){3}$", "aaaa", -1, -1);
        Check.run("^(|a){2,3}$", "", 0, 0);
    }

    private static void anyNumberOfTimes() {
        Check.sentence("no m: any number of times; * 0 and more, + 1 and more");
        String much = "a".repeat(1200);
        for (String q : new String[] {"*", "+", "{0,}", "{1,}", "{2,}", "{50,}", "*?", "+?", "{2,}?"}) {
            Check.run("^a" + q + "$", much, 0, 1200, -1);
            Check.run("^(aa)" + q + "$", much, 0, 1200);
            Check.run("^(aa)" + q + "$", much.substring(1), -1, -1);
        }
        Check.run("(a*)*", much, 0, 1200);
        Check.run("(|a)+", much, 0, 1200);
        Check.run("(a*)+b", much, -1, -1);
    }

    private static void beginning() {
        Check.sentence("^ only at the beginning of THE STRING");
        Check.run("^", "", 0, 0);
        Check.run("^", "ab", 0, 0, -1, -1);
        Check.run("^a", "aa", 0, 1, -1, -1);
        Check.run("^b", "ab", -1, -1, -1, -1);
        Check.run("a^", "aa", -1, -1, -1, -1);
        Check.run("(^a)+", "aa", 0, 1, -1, -1);
        Check.run("(^|b)a", "aba", 0, 1, 3, -1, -1);
        // Not behind an end of a line, as elsewhere.
        for (String c : new String[] {"\n", "\r", "\u2028", "\u2029"}) {
            Check.run("^a", c + "a", -1, -1, -1, -1);
        }
    }

    private static void end() {
        Check.sentence("$ only at its end");
        Check.run("$", "", 0, 0);
        Check.run("$", "ab", 2, -1, -1, 2);
        Check.run("a$", "aa", 1, -1, 2, -1);
        Check.run("a$", "ab", -1, -1, -1, -1);
        Check.run("$a", "aa", -1, -1, -1, -1);
        Check.run("^$", "", 0, 0);
        Check.run("$^", "", 0, 0);
        Check.run("^$", "a", -1, -1, -1);
        Check.run("a($|b)", "aba", 0, 2, -1, 3, -1);
        for (String c : new String[] {"\n", "\r", "\u2028", "\u2029"}) {
            Check.run("a$", "a" + c, -1, -1, -1, -1);
        }
    }

    private static void firstNamedException() {
        Check.sentence("Of several exceptions of a call the one named first in its heading is thrown");
        for (boolean pattern : new boolean[] {true, false}) {
            PatternJudge x = new PatternJudge();
            Check.put(x, pattern, "a".repeat(pattern ? 600 : 1200));
            for (int c : new int[] {-1, LAST + 1, Integer.MIN_VALUE, Integer.MAX_VALUE}) {
                Check.refused(x, "letter " + c + " beyond the limit", () -> x.letter(pattern, c), Check.ILLEGAL);
            }
            Check.refused(x, "letter beyond the limit", () -> x.letter(pattern, LAST), Check.OUT_OF_BOUNDS);
        }
        PatternJudge y = Check.judge("(a", "aa");
        for (int from : new int[] {-1, 3, Integer.MIN_VALUE, Integer.MAX_VALUE}) {
            Check.refused(y, "longest(" + from + ") of none", () -> y.longest(from), Check.ILLEGAL);
        }
        Check.put(y, true, ")");
        Check.refused(y, "longest(3)", () -> y.longest(3), Check.OUT_OF_BOUNDS);
        Check.refused(y, "longest(-1)", () -> y.longest(-1), Check.OUT_OF_BOUNDS);
    }

    private static void nothingChanges() {
        Check.sentence("a call that throws changes nothing");
        PatternJudge x = Check.judge("^(a", "ab");
        Check.refused(x, "size", x::size, Check.ILLEGAL);
        Check.refused(x, "matches", x::matches, Check.ILLEGAL);
        Check.refused(x, "first", x::first, Check.ILLEGAL);
        Check.refused(x, "longest", () -> x.longest(0), Check.ILLEGAL);
        Check.refused(x, "letter to the pattern", () -> x.letter(true, LAST + 1), Check.ILLEGAL);
        Check.refused(x, "letter to the string", () -> x.letter(false, -1), Check.ILLEGAL);
        Check.due("what stood there goes on", () -> x.letters(true, 0x29622B2400000000L), 7);
        Check.due("its size", x::size, 6);
        Check.due("the string goes on", () -> x.letters(false, 0x6262000000000000L), 4);
        Check.due("longest(0)", () -> x.longest(0), 4);
        Check.refused(x, "longest(5)", () -> x.longest(5), Check.OUT_OF_BOUNDS);
        Check.due("longest(0) once more", () -> x.longest(0), 4);
        Check.due("first", x::first, 0);
    }
}
