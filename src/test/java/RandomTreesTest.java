import java.util.ArrayList;
import java.util.List;
import java.util.TreeSet;

/**
 * Promises 5 to 8 over many patterns: trees made from a fixed row of numbers are written as
 * patterns, and the answers are told by the tree itself, in the plainest way: the set of all places
 * where a part that begins at a place can end. One object is given one pattern after the other, so
 * that what an earlier one has left behind would show.
 */
public final class RandomTreesTest {
    private static final String STRINGS = "aabbc1\n";
    /** The document's limit for one object. */
    private static final int CALLS = 512;
    /** What a tree takes beside its letters: clear and size; for each string clear, letters, ten questions. */
    private static final int CALLS_OF_A_TREE = 2 + 3 * 12;
    private static long seed = 20261115L;

    public static void main(String[] args) {
        int small = 0;
        PatternJudge x = new PatternJudge();
        int calls = 0;
        for (int i = 0; i < 6000; i++) {
            Tree tree = new Tree(3);
            String pattern = tree.text();
            if (pattern.length() > 600) {
                continue;
            }
            int more = CALLS_OF_A_TREE + (pattern.length() + 7) / 8;
            if (calls + more > CALLS) {
                x = new PatternJudge();
                calls = 0;
            }
            calls += more;
            x.clear(true);
            Check.put(x, true, pattern);
            if (tree.size() > 400) {
                Check.due("size of " + pattern, x::size, Check.ILLEGAL);
                continue;
            }
            small++;
            Check.due("size of " + pattern, x::size, tree.size());
            for (int s = 0; s < 3; s++) {
                compare(x, tree, pattern, string());
            }
        }
        int compared = small;
        Check.due("enough patterns were compared", () -> compared > 3000, true);
        Check.end("RandomTreesTest");
    }

    private static void compare(PatternJudge x, Tree tree, String pattern, String string) {
        x.clear(false);
        Check.put(x, false, string);
        int first = -1;
        for (int from = string.length(); from >= 0; from--) {
            TreeSet<Integer> ends = tree.ends(string, from);
            int place = from;
            Check.due("longest(" + from + "), " + pattern + " over " + string, () -> x.longest(place),
                    ends.isEmpty() ? -1 : ends.last());
            first = ends.isEmpty() ? first : from;
        }
        Check.due("first, " + pattern + " over " + string, x::first, first);
        Check.due("matches, " + pattern + " over " + string, x::matches, first >= 0);
    }

    private static int next(int bound) {
        seed = seed * 6364136223846793005L + 1442695040888963407L;
        return (int) ((seed >>> 33) % bound);
    }

    private static String string() {
        StringBuilder s = new StringBuilder();
        int length = next(8);
        for (int i = 0; i < length; i++) {
            s.append(STRINGS.charAt(next(STRINGS.length())));
        }
        return s.toString();
    }

    /** A D: branches of items. */
    private static final class Tree {
        private final List<List<Item>> branches = new ArrayList<>();

        Tree(int depth) {
            int count = next(3) == 0 ? 2 + next(2) : 1;
            for (int i = 0; i < count; i++) {
                List<Item> branch = new ArrayList<>();
                int items = next(4);
                for (int j = 0; j < items; j++) {
                    branch.add(new Item(depth));
                }
                branches.add(branch);
            }
        }

        String text() {
            List<String> all = new ArrayList<>();
            for (List<Item> branch : branches) {
                StringBuilder s = new StringBuilder();
                branch.forEach(item -> s.append(item.text()));
                all.add(s.toString());
            }
            return String.join("|", all);
        }

        long size() {
            long size = branches.size() - 1;
            for (List<Item> branch : branches) {
                for (Item item : branch) {
                    size += item.size();
                }
            }
            return size;
        }

        TreeSet<Integer> ends(String s, int from) {
            TreeSet<Integer> all = new TreeSet<>();
            for (List<Item> branch : branches) {
                TreeSet<Integer> ends = new TreeSet<>(List.of(from));
                for (Item item : branch) {
                    ends = item.ends(s, ends);
                }
                all.addAll(ends);
            }
            return all;
        }
    }

    private static final class Item {
        private static final String[] LEAVES = {"a", "b", "c", "\\d", "\\w", "\\S", ".", "[ab]", "[^a]", "[]", "[^]",
            "[a-c-]", "\\x62", "\\u{61}"};
        private static final String[] HELD = {"a", "b", "c", "1", "abc1", "abc1", "abc1", "ab", "bc1\n", "", "abc1\n",
            "abc", "b", "a"};
        private static final String[] QUANTITIES = {"*", "+", "?", "{2}", "{0,2}", "{1,3}", "{2,}", "{0}", "{0,}",
            "{3,3}", "{1}", "{17}"};
        private static final int[] LEAST = {0, 1, 0, 2, 0, 1, 2, 0, 0, 3, 1, 17};
        private static final int[] MOST = {-1, -1, 1, 2, 2, 3, -1, 0, -1, 3, 1, 17};

        private Tree group = null;
        private String opening = "";
        private int leaf = -1;
        private char assertion = 0;
        private int quantity = -1;
        private String lazy = "";

        Item(int depth) {
            int kind = next(depth > 0 ? 14 : 10);
            if (kind == 0) {
                assertion = next(2) == 0 ? '^' : '$';
                return;
            }
            if (kind < 10) {
                leaf = next(LEAVES.length);
            } else {
                group = new Tree(depth - 1);
                opening = next(2) == 0 ? "(" : "(?:";
            }
            if (next(2) == 0) {
                quantity = next(QUANTITIES.length);
                lazy = next(3) == 0 ? "?" : "";
            }
        }

        String text() {
            if (assertion != 0) {
                return String.valueOf(assertion);
            }
            String once = group == null ? LEAVES[leaf] : opening + group.text() + ")";
            return quantity < 0 ? once : once + QUANTITIES[quantity] + lazy;
        }

        long size() {
            long once = group == null ? 1 : group.size();
            if (quantity < 0) {
                return once;
            }
            long more = MOST[quantity] < 0 ? once : (MOST[quantity] - LEAST[quantity]) * once;
            return Math.max(1, LEAST[quantity] * once + more) + 1;
        }

        TreeSet<Integer> ends(String s, TreeSet<Integer> from) {
            if (quantity < 0) {
                return once(s, from);
            }
            TreeSet<Integer> now = from;
            for (int i = 0; i < LEAST[quantity]; i++) {
                now = once(s, now);
            }
            TreeSet<Integer> all = new TreeSet<>(now);
            // More rounds than places add nothing new where there is no m.
            int more = MOST[quantity] < 0 ? s.length() + 1 : MOST[quantity] - LEAST[quantity];
            for (int i = 0; i < more; i++) {
                now = once(s, now);
                all.addAll(now);
            }
            return all;
        }

        private TreeSet<Integer> once(String s, TreeSet<Integer> from) {
            TreeSet<Integer> all = new TreeSet<>();
            for (int place : from) {
                if (group != null) {
                    all.addAll(group.ends(s, place));
                } else if (assertion == '^' && place == 0 || assertion == '$' && place == s.length()) {
                    all.add(place);
                } else if (leaf >= 0 && place < s.length() && HELD[leaf].indexOf(s.charAt(place)) >= 0) {
                    all.add(place + 1);
                }
            }
            return all;
        }
    }
}
