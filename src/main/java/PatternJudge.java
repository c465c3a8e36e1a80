import java.util.Arrays;

/**
 * Regular expressions over characters 0 to 10FFFF: THE PATTERN is checked and made an automaton,
 * which is run over THE STRING.
 *
 * <p>Every row that a call needs is made once, by the constructor: no later call makes an object,
 * so that a long run of calls stays small.
 */
public final class PatternJudge {
    private static final int PATTERN_ROOM = 600;
    private static final int STRING_ROOM = 1200;
    private static final int LAST_CHARACTER = 0x10FFFF;
    private static final int MOST_SIZE = 400;
    private static final int MOST_TIMES = 50;
    private static final int MOST_DEPTH = 30;
    private static final int OCTETS = 8;

    /** No node, no state, no place, no character. */
    private static final int NONE = -1;
    /** Stands for an m that is not there: any number of times. */
    private static final int ANY_NUMBER = -1;

    private static final int CHARACTER = 0;
    private static final int BEGIN = 1;
    private static final int END = 2;
    private static final int GROUP = 3;
    private static final int BRANCH = 4;
    private static final int SPLIT = 5;
    private static final int ACCEPT = 6;

    private final Text patternText;
    private final Text stringText;
    private final Tree tree;
    private final Reader reader;
    private final Automaton automaton;
    private final Walk walk;

    public PatternJudge() {
        Sets sets = new Sets();
        patternText = new Text(PATTERN_ROOM);
        stringText = new Text(STRING_ROOM);
        tree = new Tree();
        reader = new Reader(new Units(patternText), tree, sets);
        automaton = new Automaton(tree);
        walk = new Walk(stringText, automaton, sets);
    }

    public int letters(boolean pattern, long w) throws IndexOutOfBoundsException {
        Text text = chosen(pattern);
        int more = octetsBeforeZero(w);
        if (!text.hasRoomFor(more)) {
            throw new IndexOutOfBoundsException();
        }
        for (int i = 0; i < more; i++) {
            text.append(octet(w, i));
        }
        return text.length;
    }

    public int letter(boolean pattern, int c) throws IllegalArgumentException, IndexOutOfBoundsException {
        if (c < 0 || c > LAST_CHARACTER) {
            throw new IllegalArgumentException();
        }
        Text text = chosen(pattern);
        if (!text.hasRoomFor(1)) {
            throw new IndexOutOfBoundsException();
        }
        text.append(c);
        return text.length;
    }

    public void clear(boolean pattern) {
        chosen(pattern).makeEmpty();
    }

    public int size() throws IllegalArgumentException {
        return tree.sizeOnce(reader.readPattern());
    }

    public boolean matches() throws IllegalArgumentException {
        automaton.build(reader.readPattern());
        return walk.leastBegin() != NONE;
    }

    public int longest(int from) throws IllegalArgumentException, IndexOutOfBoundsException {
        automaton.build(reader.readPattern());
        if (from < 0 || from > stringText.length) {
            throw new IndexOutOfBoundsException();
        }
        return walk.lastEndFrom(from);
    }

    public int first() throws IllegalArgumentException {
        automaton.build(reader.readPattern());
        return walk.leastBegin();
    }

    private Text chosen(boolean pattern) {
        return pattern ? patternText : stringText;
    }

    private static int octet(long w, int index) {
        return (int) (w >>> (8 * (OCTETS - 1 - index))) & 0xFF;
    }

    private static int octetsBeforeZero(long w) {
        int count = 0;
        while (count < OCTETS && octet(w, count) != 0) {
            count++;
        }
        return count;
    }

    private static boolean isDigit(int c) {
        return c >= '0' && c <= '9';
    }

    private static int hexadecimalValue(int c) {
        if (isDigit(c)) {
            return c - '0';
        }
        if (c >= 'a' && c <= 'f') {
            return c - 'a' + 10;
        }
        return c >= 'A' && c <= 'F' ? c - 'A' + 10 : NONE;
    }

    /** Characters up to a limit: THE PATTERN or THE STRING. */
    private static final class Text {
        private final int[] characters;
        private int length;

        Text(int room) {
            characters = new int[room];
        }

        boolean hasRoomFor(int more) {
            return more <= characters.length - length;
        }

        void append(int c) {
            if (length < characters.length) {
                characters[length] = c;
                length++;
            }
        }

        /** NONE beyond the end, so that a reader can look ahead without asking for the length. */
        int at(int place) {
            return place >= 0 && place < length ? characters[place] : NONE;
        }

        void makeEmpty() {
            length = 0;
        }
    }

    /**
     * The sets of characters that THE PATTERN names: ranges, and families (the sets of the escapes
     * and of "."). A set is asked about the character faced at present; many states of an automaton
     * share one set, so its answer is kept until another character is faced.
     */
    private static final class Sets {
        static final int DIGIT = 1;
        static final int NO_DIGIT = 2;
        static final int WORD = 4;
        static final int NO_WORD = 8;
        static final int BLANK = 16;
        static final int NO_BLANK = 32;
        static final int NO_LINE_END = 64;

        private final int[] rangeFirst = new int[PATTERN_ROOM];
        private final int[] rangeLast = new int[PATTERN_ROOM];
        private final int[] rangesFrom = new int[PATTERN_ROOM];
        private final int[] rangesTo = new int[PATTERN_ROOM];
        private final int[] families = new int[PATTERN_ROOM];
        private final boolean[] negated = new boolean[PATTERN_ROOM];
        private final int[] answeredIn = new int[PATTERN_ROOM];
        private final boolean[] answer = new boolean[PATTERN_ROOM];
        private int count;
        private int ranges;
        private int turn;
        private int faced;
        private int facedFamilies;

        void makeEmpty() {
            count = 0;
            ranges = 0;
        }

        /** Opens a new set and answers its number; ranges and families come to the newest set. */
        int open(boolean isNegated) {
            if (count >= PATTERN_ROOM) {
                return NONE;
            }
            rangesFrom[count] = ranges;
            rangesTo[count] = ranges;
            families[count] = 0;
            negated[count] = isNegated;
            count++;
            return count - 1;
        }

        /** The characters from the unit low to the unit high; a family stands alone, as both. */
        void add(int low, int high) {
            if (count > 0 && (low & Units.FAMILY) != 0) {
                families[count - 1] |= low & Units.VALUE;
            } else if (count > 0 && ranges < PATTERN_ROOM) {
                rangeFirst[ranges] = low & Units.VALUE;
                rangeLast[ranges] = high & Units.VALUE;
                ranges++;
                rangesTo[count - 1] = ranges;
            }
        }

        /** A new turn makes every answer kept so far old, those of an earlier pattern's sets too. */
        void face(int c) {
            faced = c;
            facedFamilies = familiesOf(c);
            turn++;
        }

        boolean holds(int set) {
            if (set < 0 || set >= count) {
                return false;
            }
            if (answeredIn[set] != turn) {
                answeredIn[set] = turn;
                answer[set] = isNamed(set) != negated[set];
            }
            return answer[set];
        }

        private boolean isNamed(int set) {
            if ((families[set] & facedFamilies) != 0) {
                return true;
            }
            for (int i = rangesFrom[set]; i < rangesTo[set]; i++) {
                if (faced >= rangeFirst[i] && faced <= rangeLast[i]) {
                    return true;
                }
            }
            return false;
        }

        private static int familiesOf(int c) {
            int all = isDigit(c) ? DIGIT : NO_DIGIT;
            all |= isWord(c) ? WORD : NO_WORD;
            all |= isBlank(c) ? BLANK : NO_BLANK;
            return isLineEnd(c) ? all : all | NO_LINE_END;
        }

        private static boolean isWord(int c) {
            return isDigit(c) || c >= 'a' && c <= 'z' || c >= 'A' && c <= 'Z' || c == '_';
        }

        private static boolean isBlank(int c) {
            if (c < 0x1680) {
                return c >= 9 && c <= 13 || c == 32 || c == 0xA0;
            }
            return c == 0x1680 || c >= 0x2000 && c <= 0x200A || c == 0x2028 || c == 0x2029
                    || c == 0x202F || c == 0x205F || c == 0x3000 || c == 0xFEFF;
        }

        private static boolean isLineEnd(int c) {
            return c == 10 || c == 13 || c == 0x2028 || c == 0x2029;
        }
    }

    /**
     * The parts of a pattern. A group's branches and a branch's items hang together from the last
     * one to the first one, because the automaton is built from its end to its beginning. A node
     * is made after all that hang on it, so every chain goes to lower numbers and has an end.
     */
    private static final class Tree {
        /** Each character of a pattern makes one node at most, and two more stand for the whole. */
        private static final int NODES = PATTERN_ROOM + 2;
        /** Greater sizes need not be told apart. */
        private static final int TOO_GREAT = MOST_SIZE + 1;

        private final int[] kind = new int[NODES];
        private final int[] before = new int[NODES];
        /** A group's last branch, a branch's last item, the set of a character. */
        private final int[] inside = new int[NODES];
        private final int[] least = new int[NODES];
        private final int[] most = new int[NODES];
        /** The SIZE without its Q. */
        private final int[] once = new int[NODES];
        /** The SIZE with its Q. */
        private final int[] whole = new int[NODES];
        private int count;

        void makeEmpty() {
            count = 0;
        }

        boolean has(int node) {
            return node >= 0 && node < count;
        }

        int sizeOnce(int node) {
            return has(node) ? once[node] : 0;
        }

        int sizeWhole(int node) {
            return has(node) ? whole[node] : 0;
        }

        int add(int nodeKind, int nodeInside, int size) {
            if (count >= NODES) {
                throw new IllegalArgumentException();
            }
            int node = count;
            count++;
            kind[node] = nodeKind;
            before[node] = NONE;
            inside[node] = nodeInside;
            least[node] = 1;
            most[node] = 1;
            once[node] = Math.min(size, TOO_GREAT);
            whole[node] = once[node];
            return node;
        }

        void hangOn(int node, int former) {
            if (has(node)) {
                before[node] = former;
            }
        }

        void repeat(int node, int leastTimes, int mostTimes) {
            if (!has(node)) {
                return;
            }
            least[node] = leastTimes;
            most[node] = mostTimes;
            int copies = mostTimes == ANY_NUMBER ? leastTimes + 1 : mostTimes;
            whole[node] = Math.min(Math.max(once[node] * copies, 1) + 1, TOO_GREAT);
        }
    }

    /**
     * THE PATTERN with its escapes read: a unit is a character as it stands there, or what an escape
     * stands for. A character of an escape is marked, so that it is never taken for syntax.
     */
    private static final class Units {
        static final int ESCAPED = 0x200000;
        static final int ONLY_IN_SET = 0x400000;
        static final int FAMILY = 0x800000;
        private static final int VALUE = 0x1FFFFF;
        private static final String SYNTAX = "^$\\.*+?()[]{}|";

        private final Text pattern;
        private final int[] row = new int[PATTERN_ROOM];
        private int count;
        private int place;

        Units(Text pattern) {
            this.pattern = pattern;
        }

        void readAll() {
            count = 0;
            place = 0;
            while (place < pattern.length && count < PATTERN_ROOM) {
                int c = pattern.at(place);
                place++;
                row[count] = c == '\\' ? readEscape() : c;
                count++;
            }
        }

        /** NONE behind the last unit, so that a reader can look ahead. */
        int at(int index) {
            return index >= 0 && index < count ? row[index] : NONE;
        }

        private int readEscape() {
            int c = pattern.at(place);
            place++;
            switch (c) {
                case 'd': return FAMILY | Sets.DIGIT;
                case 'D': return FAMILY | Sets.NO_DIGIT;
                case 'w': return FAMILY | Sets.WORD;
                case 'W': return FAMILY | Sets.NO_WORD;
                case 's': return FAMILY | Sets.BLANK;
                case 'S': return FAMILY | Sets.NO_BLANK;
                case 't': return ESCAPED | 9;
                case 'n': return ESCAPED | 10;
                case 'v': return ESCAPED | 11;
                case 'f': return ESCAPED | 12;
                case 'r': return ESCAPED | 13;
                case 'b': return ONLY_IN_SET | 8;
                case '-': return ONLY_IN_SET | '-';
                case 'x': return ESCAPED | readHexadecimal(2);
                case 'u': return ESCAPED | readHexadecimalOfU();
                default: return ESCAPED | readCharacterEscape(c);
            }
        }

        private int readCharacterEscape(int c) {
            if (c == '0' && !isDigit(pattern.at(place))) {
                return 0;
            }
            if (c != '/' && !isSyntax(c)) {
                throw new IllegalArgumentException();
            }
            return c;
        }

        private int readHexadecimalOfU() {
            if (pattern.at(place) != '{') {
                return readHexadecimal(4);
            }
            place++;
            int value = readHexadecimal(1);
            for (int i = 0; i < PATTERN_ROOM && pattern.at(place) != '}'; i++) {
                value = 16 * value + readHexadecimal(1);
                // Looked at after each digit: any number of them may come, and the value must not wrap.
                if (value > LAST_CHARACTER) {
                    throw new IllegalArgumentException();
                }
            }
            place++;
            return value;
        }

        private int readHexadecimal(int digits) {
            int value = 0;
            for (int i = 0; i < digits; i++) {
                int digit = hexadecimalValue(pattern.at(place));
                if (digit == NONE) {
                    throw new IllegalArgumentException();
                }
                value = 16 * value + digit;
                place++;
            }
            return value;
        }

        static boolean isSyntax(int unit) {
            return unit >= 0 && unit < 128 && SYNTAX.indexOf((char) unit) >= 0;
        }

        static boolean isOnlyInSet(int unit) {
            return unit >= 0 && (unit & ONLY_IN_SET) != 0;
        }

        /** Whether a range may go from low to high: two characters, the first one not above the other. */
        static boolean isRange(int low, int high) {
            return low >= 0 && high >= 0 && ((low | high) & FAMILY) == 0 && (low & VALUE) <= (high & VALUE);
        }
    }

    /** Checks THE PATTERN and makes its tree; a pattern that is none is refused by a throw. */
    private static final class Reader {
        private final Units units;
        private final Tree tree;
        private final Sets sets;
        private int place;

        Reader(Units units, Tree tree, Sets sets) {
            this.units = units;
            this.tree = tree;
            this.sets = sets;
        }

        /** Answers the group that is the whole pattern. */
        int readPattern() {
            tree.makeEmpty();
            sets.makeEmpty();
            units.readAll();
            place = 0;
            int root = readGroup(0);
            if (place < units.count || tree.sizeOnce(root) > MOST_SIZE) {
                throw new IllegalArgumentException();
            }
            return root;
        }

        private int readGroup(int depth) {
            int branch = readBranch(depth);
            int size = tree.sizeOnce(branch);
            for (int i = 0; i < PATTERN_ROOM && take('|'); i++) {
                int next = readBranch(depth);
                tree.hangOn(next, branch);
                branch = next;
                size += 1 + tree.sizeOnce(branch);
            }
            return tree.add(GROUP, branch, size);
        }

        private int readBranch(int depth) {
            int item = NONE;
            int size = 0;
            for (int i = 0; i < PATTERN_ROOM && !isAtBranchEnd(); i++) {
                int next = readItem(depth);
                tree.hangOn(next, item);
                item = next;
                size += tree.sizeWhole(item);
            }
            return tree.add(BRANCH, item, size);
        }

        private boolean isAtBranchEnd() {
            int unit = units.at(place);
            return unit == NONE || unit == '|' || unit == ')';
        }

        private int readItem(int depth) {
            if (take('^')) {
                return tree.add(BEGIN, NONE, 1);
            }
            if (take('$')) {
                return tree.add(END, NONE, 1);
            }
            int item;
            if (take('(')) {
                item = readInBrackets(depth + 1);
            } else {
                item = tree.add(CHARACTER, take('[') ? readRanges() : readOne(), 1);
            }
            readQuantity(item);
            return item;
        }

        private int readInBrackets(int depth) {
            if (depth > MOST_DEPTH) {
                throw new IllegalArgumentException();
            }
            if (take('?')) {
                demand(':');
            }
            int group = readGroup(depth);
            demand(')');
            return group;
        }

        private void readQuantity(int item) {
            int least = 0;
            int most = ANY_NUMBER;
            if (take('+')) {
                least = 1;
            } else if (take('?')) {
                most = 1;
            } else if (take('{')) {
                least = readNumber();
                most = least;
                if (take(',')) {
                    most = units.at(place) == '}' ? ANY_NUMBER : readNumber();
                }
                demand('}');
            } else if (!take('*')) {
                return;
            }
            if (most != ANY_NUMBER && least > most) {
                throw new IllegalArgumentException();
            }
            take('?');
            tree.repeat(item, least, most);
        }

        private int readNumber() {
            int value = 0;
            int digits = 0;
            while (digits < 3 && isDigit(units.at(place))) {
                value = 10 * value + units.at(place) - '0';
                place++;
                digits++;
            }
            if (digits == 0 || value > MOST_TIMES) {
                throw new IllegalArgumentException();
            }
            return value;
        }

        private int readOne() {
            int unit = units.at(place);
            if (unit == '.') {
                unit = Units.FAMILY | Sets.NO_LINE_END;
            }
            if (unit == NONE || Units.isSyntax(unit) || Units.isOnlyInSet(unit)) {
                throw new IllegalArgumentException();
            }
            place++;
            int set = sets.open(false);
            sets.add(unit, unit);
            return set;
        }

        private int readRanges() {
            int set = sets.open(take('^'));
            for (int i = 0; i < PATTERN_ROOM && units.at(place) != ']'; i++) {
                readRange();
            }
            demand(']');
            return set;
        }

        private void readRange() {
            int low = units.at(place);
            if (low == NONE) {
                throw new IllegalArgumentException();
            }
            place++;
            if (units.at(place) != '-' || units.at(place + 1) == ']') {
                sets.add(low, low);
                return;
            }
            int high = units.at(place + 1);
            if (!Units.isRange(low, high)) {
                throw new IllegalArgumentException();
            }
            place += 2;
            sets.add(low, high);
        }

        private boolean take(int c) {
            if (units.at(place) != c) {
                return false;
            }
            place++;
            return true;
        }

        private void demand(int c) {
            if (units.at(place) != c) {
                throw new IllegalArgumentException();
            }
            place++;
        }
    }

    /**
     * The states that a tree is made into. They are built from the end to the beginning: each part
     * is given the state that goes on behind it, and answers the state at which it is entered.
     */
    private static final class Automaton {
        /** A part of SIZE s makes at most 2 s - 1 states: every split stands for one SIZE at least. */
        private static final int STATES = 2 * MOST_SIZE + 1;

        private final Tree tree;
        private final int[] kind = new int[STATES];
        private final int[] set = new int[STATES];
        private final int[] next = new int[STATES];
        private final int[] other = new int[STATES];
        private int count;
        private int entry;

        Automaton(Tree tree) {
            this.tree = tree;
        }

        void build(int root) {
            count = 0;
            entry = buildGroup(root, addState(ACCEPT, NONE, NONE), 0);
        }

        boolean has(int state) {
            return state >= 0 && state < count;
        }

        private int addState(int stateKind, int nextState, int otherState) {
            if (count >= STATES) {
                throw new IllegalArgumentException();
            }
            int state = count;
            count++;
            kind[state] = stateKind;
            set[state] = NONE;
            next[state] = nextState;
            other[state] = otherState;
            return state;
        }

        private int buildGroup(int group, int behind, int depth) {
            int start = NONE;
            int branch = tree.has(group) ? tree.inside[group] : NONE;
            for (int i = 0; i < tree.count && tree.has(branch); i++) {
                int way = buildBranch(branch, behind, depth);
                start = start == NONE ? way : addState(SPLIT, way, start);
                branch = tree.before[branch];
            }
            return start;
        }

        private int buildBranch(int branch, int behind, int depth) {
            int start = behind;
            int item = tree.inside[branch];
            for (int i = 0; i < tree.count && tree.has(item); i++) {
                start = buildItem(item, start, depth);
                item = tree.before[item];
            }
            return start;
        }

        private int buildItem(int item, int behind, int depth) {
            if (tree.once[item] == 0) {
                // Brackets round nothing: however often, that is nothing.
                return behind;
            }
            int least = tree.least[item];
            int start = behind;
            if (tree.most[item] == ANY_NUMBER) {
                start = addState(SPLIT, NONE, behind);
                next[start] = buildOnce(item, start, depth);
            }
            for (int i = least; i < tree.most[item]; i++) {
                start = addState(SPLIT, buildOnce(item, start, depth), behind);
            }
            for (int i = 0; i < least; i++) {
                start = buildOnce(item, start, depth);
            }
            return start;
        }

        private int buildOnce(int item, int behind, int depth) {
            if (tree.kind[item] == GROUP) {
                // The reader has refused deeper brackets; the guard keeps the recursion's end in sight.
                return depth < MOST_DEPTH ? buildGroup(item, behind, depth + 1) : behind;
            }
            int state = addState(tree.kind[item], behind, NONE);
            set[state] = tree.inside[item];
            return state;
        }
    }

    /**
     * A walk of an automaton over THE STRING, in all its states at once. The states of a place stand
     * in the order of the places where their walks began: of two walks that come to one state, the
     * one that began first is kept, and it came first.
     */
    private static final class Walk {
        private static final int STATES = Automaton.STATES;

        private final Text string;
        private final Automaton automaton;
        private final Sets sets;
        private final int[] enteredAt = new int[STATES];
        private int[] states = new int[STATES];
        private int[] begins = new int[STATES];
        private int[] formerStates = new int[STATES];
        private int[] formerBegins = new int[STATES];
        private int count;
        private int place;
        private int leastBegin;
        private int lastEnd;

        Walk(Text string, Automaton automaton, Sets sets) {
            this.string = string;
            this.automaton = automaton;
            this.sets = sets;
        }

        /** The least place where a part that is accepted begins, or NONE. */
        int leastBegin() {
            startAt(0);
            enter(automaton.entry, 0);
            dropLaterWalks();
            for (int here = 1; here <= string.length && !isSettled(); here++) {
                advanceTo(here);
                if (leastBegin == NONE) {
                    enter(automaton.entry, here);
                }
                dropLaterWalks();
            }
            return leastBegin;
        }

        /** The last place where a part that begins at a place ends, or NONE. */
        int lastEndFrom(int from) {
            startAt(from);
            enter(automaton.entry, from);
            for (int here = from + 1; here <= string.length && count > 0; here++) {
                advanceTo(here);
            }
            return lastEnd;
        }

        private void startAt(int from) {
            Arrays.fill(enteredAt, NONE);
            count = 0;
            place = from;
            leastBegin = NONE;
            lastEnd = NONE;
        }

        private boolean isSettled() {
            return leastBegin != NONE && count == 0;
        }

        /** Once a walk is accepted, only those that began before it can better the answer. */
        private void dropLaterWalks() {
            while (leastBegin != NONE && count > 0 && begins[count - 1] >= leastBegin) {
                count--;
            }
        }

        private void advanceTo(int here) {
            int formerCount = count;
            exchangeRows();
            place = here;
            sets.face(string.at(here - 1));
            for (int i = 0; i < formerCount; i++) {
                int state = formerStates[i];
                if (automaton.kind[state] == CHARACTER && sets.holds(automaton.set[state])) {
                    enter(automaton.next[state], formerBegins[i]);
                }
            }
        }

        private void exchangeRows() {
            int[] row = states;
            states = formerStates;
            formerStates = row;
            row = begins;
            begins = formerBegins;
            formerBegins = row;
            count = 0;
        }

        /** Enters a state and all that it leads to without a character. */
        private void enter(int state, int begin) {
            int done = count;
            join(state, begin);
            for (; done < count && done < STATES; done++) {
                goOn(states[done], begin);
            }
        }

        private void join(int state, int begin) {
            if (automaton.has(state) && count < STATES && enteredAt[state] != place) {
                enteredAt[state] = place;
                states[count] = state;
                begins[count] = begin;
                count++;
            }
        }

        private void goOn(int state, int begin) {
            switch (automaton.kind[state]) {
                case SPLIT:
                    join(automaton.next[state], begin);
                    join(automaton.other[state], begin);
                    break;
                case BEGIN:
                    if (place == 0) {
                        join(automaton.next[state], begin);
                    }
                    break;
                case END:
                    if (place == string.length) {
                        join(automaton.next[state], begin);
                    }
                    break;
                case ACCEPT:
                    accept(begin);
                    break;
                default:
                    break;
            }
        }

        private void accept(int begin) {
            lastEnd = place;
            if (leastBegin == NONE || begin < leastBegin) {
                leastBegin = begin;
            }
        }
    }
}
