import java.util.Arrays;

/** Sets that meet all sets of a list, and what else ../shared/DOC.md tells of such lists. */
public final class MeetSets {
    public static final int NONE = -1, BAD = -2, NO = -3, FULL = -4;

    private static final int MOST_ELEMENTS = 10;
    private static final int ELEMENTS_AT_FIRST = 8;
    private static final int MOST_PARTS = 1 << MOST_ELEMENTS;
    private static final int MOST_SETS = 16;
    private static final int MOST_OTHERS = 40;
    private static final int MOST_HIDDEN = 12;
    private static final int MOST_COST = 20;
    private static final int COST_AT_FIRST = 1;
    private static final int MOST_ODDS = 10;
    private static final int LEAST_COLOURS = 2;
    private static final int MOST_COLOURS = 4;
    private static final int MAKER = 0;
    private static final int BREAKER = 1;

    private final int[] costs;
    private final SetRow list;
    private final SetRow others;
    private final Fraction fraction;
    private final Shares sharing;
    private final Families families;
    private final Sight sight;
    private final Colours colours;
    private final Ears falling;
    private final Match match;
    private final Asking asking;

    public MeetSets() {
        costs = new int[MOST_ELEMENTS];
        Arrays.fill(costs, COST_AT_FIRST);
        list = new SetRow(new int[MOST_SETS], ELEMENTS_AT_FIRST);
        others = new SetRow(new int[MOST_OTHERS], ELEMENTS_AT_FIRST);
        fraction = new Fraction();
        sharing = new Shares();
        families = new Families(list);
        sight = new Sight(list);
        colours = new Colours(list);
        falling = new Ears(list);
        match = new Match(list);
        asking = new Asking(list);
    }

    // ---- lists

    public int ground(int n) {
        if (n < 1 || n > MOST_ELEMENTS) {
            return BAD;
        }
        list.clearFor(n);
        others.clearFor(n);
        return 1;
    }

    public int set(int elements) {
        if (elements == 0 || !list.isPart(elements) || list.holds(elements)) {
            return BAD;
        }
        if (list.isFull()) {
            return FULL;
        }
        list.append(elements);
        return list.size - 1;
    }

    public int drop() {
        return list.size == 0 ? NO : list.removeLast();
    }

    public int cost(int element, int v) {
        if (!isElement(element) || v < 0 || v > MOST_COST) {
            return BAD;
        }
        int was = costs[element];
        costs[element] = v;
        return was;
    }

    public int meeters() {
        int many = 0;
        for (int x = 0; x < list.parts; x++) {
            if (list.isLeastMeeter(x)) {
                many++;
            }
        }
        return many;
    }

    public int meeter(int i) {
        if (i < 0) {
            return BAD;
        }
        int before = 0;
        for (int x = 0; x < list.parts; x++) {
            if (list.isLeastMeeter(x)) {
                if (before == i) {
                    return x;
                }
                before++;
            }
        }
        return NONE;
    }

    public int best(int what) {
        if (!isZeroOrOne(what)) {
            return BAD;
        }
        int found = NONE;
        int foundPrice = 0;
        int foundSize = 0;
        for (int x = 0; x < list.parts; x++) {
            if (!list.isMeeter(x)) {
                continue;
            }
            int price = what == 0 ? 0 : priceOf(x);
            int size = Integer.bitCount(x);
            if (found == NONE || price < foundPrice || (price == foundPrice && size < foundSize)) {
                found = x;
                foundPrice = price;
                foundSize = size;
            }
        }
        return found;
    }

    public int other(int elements) {
        if (!others.isPart(elements) || others.holds(elements)) {
            return BAD;
        }
        if (others.isFull()) {
            return FULL;
        }
        others.append(elements);
        return others.size;
    }

    public int otherless() {
        int many = others.size;
        others.clearFor(list.n);
        return many;
    }

    public int take() {
        int many = meeters();
        if (many > MOST_OTHERS) {
            return NO;
        }
        others.clearFor(list.n);
        for (int x = 0; x < list.parts; x++) {
            if (list.isLeastMeeter(x)) {
                others.append(x);
            }
        }
        return many;
    }

    public int witness() {
        int all = list.parts - 1;
        for (int x = 0; x < list.parts; x++) {
            if (list.hasSetIn(x) == others.hasSetIn(all ^ x)) {
                return x;
            }
        }
        return NONE;
    }

    public int shares() {
        sharing.solve(list, costs);
        fraction.become(sharing.above(), sharing.below());
        return 1;
    }

    // ---- parts of lists

    public int apart() {
        families.findApart();
        return families.bestBits;
    }

    public int star(int what) {
        if (!isZeroOrOne(what)) {
            return BAD;
        }
        if (list.size < 2) {
            return NONE;
        }
        families.findStar();
        return what == 0 ? families.bestBits : families.bestCore;
    }

    public int seen(int part) {
        return list.isPart(part) ? sight.manySeenOf(part) : BAD;
    }

    public int dimension(int what) {
        if (!isZeroOrOne(what)) {
            return BAD;
        }
        if (list.size == 0) {
            return NONE;
        }
        int part = sight.greatestAllSeen();
        return what == 0 ? Integer.bitCount(part) : part;
    }

    public int colourings(int c) {
        return c < LEAST_COLOURS || c > MOST_COLOURS ? BAD : colours.waysBy(c);
    }

    public int colouring() {
        int all = list.parts - 1;
        for (int x = 0; x < list.parts; x++) {
            if (!list.hasSetIn(x) && !list.hasSetIn(all ^ x)) {
                return x;
            }
        }
        return NONE;
    }

    public int ears() {
        return falling.whatIsLeft();
    }

    public int twoByTwo() {
        for (int three = 0; three < list.parts; three++) {
            if (Integer.bitCount(three) == 3 && nothingInCommon(three)) {
                return three;
            }
        }
        return NONE;
    }

    // ---- games, chances, questions

    public int game(int begins, int what) {
        if (!isZeroOrOne(begins) || !isZeroOrOne(what)) {
            return BAD;
        }
        int move = match.winningMove(begins);
        if (what == 1) {
            return move;
        }
        int second = begins == MAKER ? BREAKER : MAKER;
        return move == NONE ? second : begins;
    }

    public int chance(int a, int b) {
        if (a < 0 || a > b || b < 1 || b > MOST_ODDS) {
            return BAD;
        }
        long above = 0;
        for (int x = 0; x < list.parts; x++) {
            if (list.isMeeter(x)) {
                int there = Integer.bitCount(x);
                above += power(a, there) * power(b - a, list.n - there);
            }
        }
        fraction.become(above, power(b, list.n));
        return 1;
    }

    public long part(int what) {
        if (!isZeroOrOne(what)) {
            return -1;
        }
        return what == 0 ? fraction.above : fraction.below;
    }

    public int swings(int element) {
        if (!isElement(element)) {
            return BAD;
        }
        int many = 0;
        for (int x = 0; x < list.parts; x++) {
            if (!has(x, element) && !list.isMeeter(x) && list.isMeeter(x | (1 << element))) {
                many++;
            }
        }
        return many;
    }

    public int questions(int what) {
        if (!isZeroOrOne(what)) {
            return BAD;
        }
        if (list.size == 0 || list.size > MOST_HIDDEN) {
            return NO;
        }
        asking.prepare();
        return what == 0 ? asking.fewestAtWorst() : asking.firstToAsk();
    }

    public int count(int what) {
        switch (what) {
            case 0:
                return list.n;
            case 1:
                return list.size;
            case 2:
                return others.size;
            default:
                return BAD;
        }
    }

    public long digest() {
        long h = 439;
        for (int what = 0; what <= 2; what++) {
            h = 31 * h + count(what);
        }
        h = list.mixedInto(h);
        h = others.mixedInto(h);
        for (int e = 0; e < list.n; e++) {
            h = 31 * h + costs[e];
        }
        h = 31 * h + meeters();
        h = 31 * h + best(0);
        h = 31 * h + best(1);
        h = 31 * h + apart();
        h = 31 * h + ears();
        h = 31 * h + fraction.above;
        return 31 * h + fraction.below;
    }

    private boolean isElement(int element) {
        return element >= 0 && element < list.n;
    }

    private static boolean has(int bits, int i) {
        return ((bits >> i) & 1) == 1;
    }

    private static boolean isZeroOrOne(int what) {
        return what == 0 || what == 1;
    }

    private int priceOf(int x) {
        int price = 0;
        for (int e = 0; e < list.n; e++) {
            if (has(x, e)) {
                price += costs[e];
            }
        }
        return price;
    }

    private static long power(int base, int exponent) {
        long product = 1;
        for (int i = 0; i < exponent; i++) {
            product *= base;
        }
        return product;
    }

    /** Whether there are SETS with two of the three, and these have nothing in common. */
    private boolean nothingInCommon(int three) {
        boolean any = false;
        int common = list.parts - 1;
        for (int i = 0; i < list.size; i++) {
            if (Integer.bitCount(list.rows[i] & three) >= 2) {
                any = true;
                common &= list.rows[i];
            }
        }
        return any && common == 0;
    }

    /** Unlike sets as they came; and of each part of the ground, how many of them lie in it. */
    private static final class SetRow {
        final int[] rows;
        final int[] inside;
        int size;
        int n;
        int parts;

        SetRow(int[] room, int n) {
            rows = room;
            inside = new int[MOST_PARTS];
            size = 0;
            this.n = n;
            parts = 1 << n;
        }

        void clearFor(int n) {
            size = 0;
            this.n = n;
            parts = 1 << n;
            Arrays.fill(inside, 0);
        }

        boolean isPart(int elements) {
            return elements >= 0 && elements < parts;
        }

        boolean isFull() {
            return size >= rows.length;
        }

        boolean holds(int elements) {
            for (int i = 0; i < size; i++) {
                if (rows[i] == elements) {
                    return true;
                }
            }
            return false;
        }

        void append(int elements) {
            if (!isFull()) {
                rows[size] = elements;
                size++;
                tally(elements, 1);
            }
        }

        int removeLast() {
            if (size == 0) {
                return 0;
            }
            size--;
            tally(rows[size], -1);
            return rows[size];
        }

        boolean hasSetIn(int x) {
            return inside[x] > 0;
        }

        /** What misses a set is just what leaves all of that set outside. */
        boolean isMeeter(int x) {
            return inside[(parts - 1) ^ x] == 0;
        }

        /** Meeters stay meeters when they grow, so it does to try the parts with one element less. */
        boolean isLeastMeeter(int x) {
            if (!isMeeter(x)) {
                return false;
            }
            for (int e = 0; e < n; e++) {
                if (has(x, e) && isMeeter(x ^ (1 << e))) {
                    return false;
                }
            }
            return true;
        }

        long mixedInto(long h) {
            long mixed = h;
            for (int i = 0; i < size; i++) {
                mixed = 31 * mixed + rows[i];
            }
            return mixed;
        }

        /** Goes through all that the set lies in: the next such number is the next number with the set put in. */
        private void tally(int elements, int change) {
            for (int x = elements; x < parts; x = (x + 1) | elements) {
                inside[x] += change;
            }
        }
    }

    /** A fraction in lowest terms, 0 or more. */
    private static final class Fraction {
        /** Of two longs the greatest common divisor is found in fewer rounds than this. */
        private static final int ROUNDS = 100;

        long above;
        long below;

        Fraction() {
            above = 0;
            below = 1;
        }

        void become(long newAbove, long newBelow) {
            long common = commonDivisor(newAbove, newBelow);
            if (common > 0 && newBelow > 0) {
                above = newAbove / common;
                below = newBelow / common;
            }
        }

        private static long commonDivisor(long a, long b) {
            long greater = a;
            long less = b;
            for (int round = 0; round < ROUNDS && less != 0; round++) {
                long rest = greater % less;
                greater = less;
                less = rest;
            }
            return greater;
        }
    }

    /**
     * SHARES, by way of the twin task, which has the same value and a start that needs no search:
     * weigh the SETS so that no ELEMENT bears more than its COST, and let all weights together be the most.
     * A table of whole numbers over one common divisor keeps all steps exact.
     */
    private static final class Shares {
        private static final int WIDTH = MOST_SETS + 1;
        /** No state comes twice, as the least label goes first; far more rounds than are ever needed. */
        private static final int ROUNDS = 1000000;

        private final long[][] table;
        private final int[] rowLabels;
        private final int[] columnLabels;
        private int rows;
        private int columns;
        private long divisor;

        Shares() {
            table = new long[MOST_ELEMENTS + 1][WIDTH];
            rowLabels = new int[MOST_ELEMENTS];
            columnLabels = new int[MOST_SETS];
            rows = 0;
            columns = 0;
            divisor = 1;
        }

        long above() {
            return table[rows][columns];
        }

        long below() {
            return divisor;
        }

        void solve(SetRow list, int[] costs) {
            lay(list, costs);
            for (int round = 0; round < ROUNDS; round++) {
                int column = enteringColumn();
                if (column < 0) {
                    return;
                }
                int row = leavingRow(column);
                if (row < 0) {
                    return;
                }
                pivot(row, column);
            }
        }

        /** The last column has the costs, the last row what a weight adds (below 0: it still pays to raise it). */
        private void lay(SetRow list, int[] costs) {
            rows = list.n;
            columns = list.size;
            divisor = 1;
            for (int e = 0; e < rows; e++) {
                rowLabels[e] = columns + e;
                table[e][columns] = costs[e];
                for (int i = 0; i < columns; i++) {
                    table[e][i] = has(list.rows[i], e) ? 1 : 0;
                }
            }
            for (int i = 0; i < columns; i++) {
                columnLabels[i] = i;
                table[rows][i] = -1;
            }
            table[rows][columns] = 0;
        }

        private int enteringColumn() {
            int found = -1;
            for (int j = 0; j < columns; j++) {
                if (table[rows][j] < 0 && (found < 0 || columnLabels[j] < columnLabels[found])) {
                    found = j;
                }
            }
            return found;
        }

        private int leavingRow(int column) {
            int found = -1;
            for (int i = 0; i < rows; i++) {
                if (table[i][column] > 0 && (found < 0 || bindsBefore(i, found, column))) {
                    found = i;
                }
            }
            return found;
        }

        private boolean bindsBefore(int row, int than, int column) {
            long left = table[row][columns] * table[than][column];
            long right = table[than][columns] * table[row][column];
            return left < right || (left == right && rowLabels[row] < rowLabels[than]);
        }

        private void pivot(int row, int column) {
            long raised = table[row][column];
            if (raised <= 0 || divisor <= 0) {
                return;
            }
            for (int i = 0; i <= rows; i++) {
                if (i != row) {
                    clearFromRow(table[i], table[row], column, raised);
                }
            }
            table[row][column] = divisor;
            divisor = raised;
            int label = rowLabels[row];
            rowLabels[row] = columnLabels[column];
            columnLabels[column] = label;
        }

        /** The division leaves no rest: all numbers of the table are determinants of what was laid. */
        private void clearFromRow(long[] target, long[] source, int column, long raised) {
            long times = target[column];
            for (int j = 0; j <= columns; j++) {
                if (j != column) {
                    target[j] = (target[j] * raised - times * source[j]) / divisor;
                }
            }
            target[column] = -times;
        }
    }

    /** The greatest lot of SETS of which any two have the same in common. */
    private static final class Families {
        /** The core of fewer than two SETS. */
        private static final int OPEN = -1;

        private final SetRow list;
        int bestBits;
        int bestCore;
        private int bestCount;

        Families(SetRow list) {
            this.list = list;
            bestBits = 0;
            bestCore = 0;
            bestCount = 0;
        }

        void findApart() {
            start(0, 0);
        }

        void findStar() {
            start(1, OPEN);
        }

        private void start(int countToBeat, int core) {
            bestBits = 0;
            bestCore = 0;
            bestCount = countToBeat;
            search(list.size, 0, 0, 0, core);
        }

        /**
         * Decides on SET left - 1 and those below it. It is left out first, so that lots come in order
         * as numbers and only a greater one takes the place of the best.
         */
        private void search(int left, int bits, int count, int union, int core) {
            if (count + left <= bestCount) {
                return;
            }
            if (left <= 0) {
                bestBits = bits;
                bestCore = core;
                bestCount = count;
                return;
            }
            int i = left - 1;
            search(i, bits, count, union, core);
            int set = list.rows[i];
            int common = set & union;
            if (core == OPEN || common == core) {
                int newCore = core == OPEN && count == 1 ? common : core;
                search(i, bits | (1 << i), count + 1, union | set, newCore);
            }
        }
    }

    /** What a part of the ground sees of the list. */
    private static final class Sight {
        private final SetRow list;
        private final int[] marks;
        private int mark;

        Sight(SetRow list) {
            this.list = list;
            marks = new int[MOST_PARTS];
            mark = 0;
        }

        /** A new mark each time saves clearing the row. */
        int manySeenOf(int part) {
            mark++;
            int many = 0;
            for (int i = 0; i < list.size; i++) {
                int common = list.rows[i] & part;
                if (marks[common] != mark) {
                    marks[common] = mark;
                    many++;
                }
            }
            return many;
        }

        int greatestAllSeen() {
            int found = 0;
            int foundSize = 0;
            for (int y = 1; y < list.parts; y++) {
                int size = Integer.bitCount(y);
                if (size > foundSize && (1 << size) <= list.size && manySeenOf(y) == (1 << size)) {
                    found = y;
                    foundSize = size;
                }
            }
            return found;
        }
    }

    /** Ways to share out the ELEMENTS among colours so that no colour has all of a SET. */
    private static final class Colours {
        private final SetRow list;

        Colours(SetRow list) {
            this.list = list;
        }

        /** ELEMENT 0 is held to one colour of three, to one pair of colours of four: they could change places. */
        int waysBy(int c) {
            int all = list.parts - 1;
            if (c == 2) {
                return waysByTwo(all);
            }
            int ways = 0;
            for (int x = 1; x <= all; x += 2) {
                int first = c == 3 ? waysByOne(x) : waysByTwo(x);
                if (first != 0) {
                    ways += first * waysByTwo(all ^ x);
                }
            }
            return c == 3 ? 3 * ways : 2 * ways;
        }

        private int waysByOne(int w) {
            return list.hasSetIn(w) ? 0 : 1;
        }

        /**
         * The least ELEMENT is held to one colour: the two colours could as well change places.
         * The other colour goes through all parts of the rest, in order as numbers.
         */
        private int waysByTwo(int w) {
            if (!list.hasSetIn(w)) {
                return 1 << Integer.bitCount(w);
            }
            int rest = w & (w - 1);
            int many = 1 << Integer.bitCount(rest);
            int ways = 0;
            int x = 0;
            for (int k = 0; k < many; k++) {
                if (!list.hasSetIn(x) && !list.hasSetIn(w ^ x)) {
                    ways += 2;
                }
                x = (x - rest) & rest;
            }
            return ways;
        }
    }

    /** Takes a list to pieces, ear by ear. */
    private static final class Ears {
        private final SetRow list;
        private final int[] rest;
        private int left;

        Ears(SetRow list) {
            this.list = list;
            rest = new int[MOST_SETS];
            left = 0;
        }

        int whatIsLeft() {
            for (int i = 0; i < list.size; i++) {
                rest[i] = list.rows[i];
            }
            left = (1 << list.size) - 1;
            boolean went = true;
            for (int round = 0; round < MOST_ELEMENTS + MOST_SETS && went; round++) {
                went = elementGoes() || setGoes();
            }
            return left;
        }

        private boolean elementGoes() {
            int once = 0;
            int again = 0;
            for (int i = 0; i < list.size; i++) {
                if (has(left, i)) {
                    again |= once & rest[i];
                    once |= rest[i];
                }
            }
            int lone = once & ~again;
            int least = lone & -lone;
            for (int i = 0; i < list.size; i++) {
                rest[i] &= ~least;
            }
            return least != 0;
        }

        private boolean setGoes() {
            for (int i = 0; i < list.size; i++) {
                if (has(left, i) && (rest[i] == 0 || liesInAnother(i))) {
                    left ^= 1 << i;
                    return true;
                }
            }
            return false;
        }

        private boolean liesInAnother(int i) {
            for (int j = 0; j < list.size; j++) {
                if (j != i && has(left, j) && (rest[i] & ~rest[j]) == 0) {
                    return true;
                }
            }
            return false;
        }
    }

    /** THE GAME, by trying what can be taken; who wins from a state is kept, two bits a state. */
    private static final class Match {
        private static final int[] THREES = {1, 3, 9, 27, 81, 243, 729, 2187, 6561, 19683};
        private static final int STATES = 59049;
        private static final int STATES_A_WORD = 16;
        private static final int UNKNOWN = 0;
        private static final int BREAKER_WINS = 2;
        private static final int MAKER_WINS = 3;

        private final SetRow list;
        private final int[] known;

        Match(SetRow list) {
            this.list = list;
            known = new int[STATES / STATES_A_WORD + 1];
        }

        /** The least ELEMENT by which he who begins wins, or NONE. */
        int winningMove(int begins) {
            Arrays.fill(known, 0);
            boolean makerBegins = begins == MAKER;
            for (int e = 0; e < list.n; e++) {
                if (makerWinsAfter(e, 0, 0, 0, makerBegins, list.n) == makerBegins) {
                    return e;
                }
            }
            return NONE;
        }

        private boolean makerWinsAfter(int e, int maker, int breaker, int state, boolean makersTurn, int left) {
            int bit = 1 << e;
            return makersTurn
                ? makerWins(maker | bit, breaker, state + THREES[e], false, left - 1)
                : makerWins(maker, breaker | bit, state + 2 * THREES[e], true, left - 1);
        }

        private boolean makerWins(int maker, int breaker, int state, boolean makersTurn, int left) {
            if (list.hasSetIn(maker)) {
                return true;
            }
            if (left <= 0 || list.isMeeter(breaker)) {
                return false;
            }
            int told = (known[state / STATES_A_WORD] >> shiftOf(state)) & 3;
            if (told != UNKNOWN) {
                return told == MAKER_WINS;
            }
            int tries = worthTaking(maker, breaker);
            boolean wins = !makersTurn;
            for (int e = 0; e < list.n && wins != makersTurn; e++) {
                if (has(tries, e)) {
                    wins = makerWinsAfter(e, maker, breaker, state, makersTurn, left);
                }
            }
            known[state / STATES_A_WORD] |= (wins ? MAKER_WINS : BREAKER_WINS) << shiftOf(state);
            return wins;
        }

        /** By what one of the two would win at once, he takes it or the other must; else all that is free. */
        private int worthTaking(int maker, int breaker) {
            int deciding = 0;
            int free = (list.parts - 1) & ~(maker | breaker);
            for (int e = 0; e < list.n; e++) {
                int bit = 1 << e;
                if (has(free, e) && (list.hasSetIn(maker | bit) || list.isMeeter(breaker | bit))) {
                    deciding |= bit;
                }
            }
            return deciding != 0 ? deciding : free;
        }

        private static int shiftOf(int state) {
            return state % STATES_A_WORD * 2;
        }
    }

    /** The fewest questions that tell which SET is hidden; lots of SETS are bits. */
    private static final class Asking {
        private static final int UNKNOWN = 0;

        private final SetRow list;
        private final int[] having;
        private final int[] fewest;

        Asking(SetRow list) {
            this.list = list;
            having = new int[MOST_ELEMENTS];
            fewest = new int[1 << MOST_HIDDEN];
        }

        void prepare() {
            Arrays.fill(fewest, UNKNOWN);
            for (int e = 0; e < list.n; e++) {
                having[e] = 0;
                for (int i = 0; i < list.size; i++) {
                    having[e] |= has(list.rows[i], e) ? 1 << i : 0;
                }
            }
        }

        int fewestAtWorst() {
            return fewestFor(allHidden(), MOST_HIDDEN);
        }

        int firstToAsk() {
            int all = allHidden();
            int due = fewestFor(all, MOST_HIDDEN);
            for (int e = 0; e < list.n && due > 0; e++) {
                if (splits(e, all) && fewestBy(e, all, MOST_HIDDEN) == due) {
                    return e;
                }
            }
            return NONE;
        }

        private int allHidden() {
            return (1 << Math.min(list.size, MOST_HIDDEN)) - 1;
        }

        private boolean splits(int e, int lot) {
            int yes = lot & having[e];
            return yes != 0 && yes != lot;
        }

        private int fewestBy(int e, int lot, int depth) {
            int yes = fewestFor(lot & having[e], depth - 1);
            int no = fewestFor(lot & ~having[e], depth - 1);
            return 1 + Math.max(yes, no);
        }

        /** Unlike SETS always split, and each question leaves one SET less at least: found never stays at many. */
        private int fewestFor(int lot, int depth) {
            int many = Integer.bitCount(lot);
            if (many <= 1 || depth <= 0) {
                return 0;
            }
            if (fewest[lot] != UNKNOWN) {
                return fewest[lot];
            }
            int least = leastThinkable(many);
            int found = many;
            for (int e = 0; e < list.n && found > least; e++) {
                if (splits(e, lot)) {
                    found = Math.min(found, fewestBy(e, lot, depth));
                }
            }
            fewest[lot] = found;
            return found;
        }

        /** So many answers of yes or no must tell at least so many SETS apart. */
        private static int leastThinkable(int many) {
            int least = 0;
            for (int told = 1; told < many; told *= 2) {
                least++;
            }
            return least;
        }
    }
}
