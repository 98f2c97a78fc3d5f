import java.math.BigInteger;
import java.util.ArrayList;
import java.util.Collections;
import java.util.Comparator;
import java.util.HashMap;
import java.util.HashSet;
import java.util.List;
import java.util.Map;
import java.util.Set;

/** The document's words, taken one by one and without any care for speed: what MeetSets is held against. */
final class PlainModel {
    static final int NONE = -1, BAD = -2, NO = -3, FULL = -4;

    private int n = 8;
    private final int[] costs = new int[10];
    private final List<Integer> sets = new ArrayList<>();
    private final List<Integer> others = new ArrayList<>();
    private BigInteger above = BigInteger.ZERO;
    private BigInteger below = BigInteger.ONE;

    PlainModel() {
        java.util.Arrays.fill(costs, 1);
    }

    // ---- lists

    int ground(int n) {
        if (n < 1 || n > 10) return BAD;
        this.n = n;
        sets.clear();
        others.clear();
        return 1;
    }

    int set(int elements) {
        if (elements < 1 || elements > all() || sets.contains(elements)) return BAD;
        if (sets.size() == 16) return FULL;
        sets.add(elements);
        return sets.size() - 1;
    }

    int drop() {
        return sets.isEmpty() ? NO : sets.remove(sets.size() - 1);
    }

    int cost(int element, int v) {
        if (element < 0 || element >= n || v < 0 || v > 20) return BAD;
        int was = costs[element];
        costs[element] = v;
        return was;
    }

    int meeters() {
        return leastMeeters().size();
    }

    int meeter(int i) {
        if (i < 0) return BAD;
        List<Integer> least = leastMeeters();
        return i < least.size() ? least.get(i) : NONE;
    }

    int best(int what) {
        if (what != 0 && what != 1) return BAD;
        List<Integer> all = allMeeters();
        Comparator<Integer> fewest = Comparator.comparing((Integer x) -> Integer.bitCount(x)).thenComparing(x -> x);
        Comparator<Integer> cheapest = Comparator.comparing((Integer x) -> price(x)).thenComparing(fewest);
        return Collections.min(all, what == 0 ? fewest : cheapest);
    }

    int other(int elements) {
        if (elements < 0 || elements > all() || others.contains(elements)) return BAD;
        if (others.size() == 40) return FULL;
        others.add(elements);
        return others.size();
    }

    int otherless() {
        int many = others.size();
        others.clear();
        return many;
    }

    int take() {
        List<Integer> least = leastMeeters();
        if (least.size() > 40) return NO;
        others.clear();
        others.addAll(least);
        return least.size();
    }

    int witness() {
        for (int x = 0; x <= all(); x++) {
            boolean first = false;
            for (int s : sets) first |= liesIn(s, x);
            boolean second = false;
            for (int t : others) second |= liesIn(t, all() & ~x);
            if (first == second) return x;
        }
        return NONE;
    }

    int shares() {
        BigInteger[] value = new PlainShares(sets, costs, n).value();
        become(value[0], value[1]);
        return 1;
    }

    // ---- parts of lists

    int apart() {
        int best = 0;
        for (int lot = 0; lot < 1 << sets.size(); lot++) {
            if (Integer.bitCount(lot) > Integer.bitCount(best) && commonOfAnyTwo(lot, 0)) best = lot;
        }
        return best;
    }

    int star(int what) {
        if (what != 0 && what != 1) return BAD;
        if (sets.size() < 2) return NONE;
        int best = 0;
        for (int lot = 0; lot < 1 << sets.size(); lot++) {
            int many = Integer.bitCount(lot);
            if (many >= 2 && many > Integer.bitCount(best) && commonOfAnyTwo(lot, commonOfAll(lot))) best = lot;
        }
        return what == 0 ? best : commonOfAll(best);
    }

    int seen(int part) {
        return part < 0 || part > all() ? BAD : traces(part).size();
    }

    int dimension(int what) {
        if (what != 0 && what != 1) return BAD;
        if (sets.isEmpty()) return NONE;
        int best = NONE;
        for (int y = 0; y <= all(); y++) {
            boolean greater = best == NONE || Integer.bitCount(y) > Integer.bitCount(best);
            if (greater && traces(y).equals(partsOf(y))) best = y;
        }
        return what == 0 ? Integer.bitCount(best) : best;
    }

    int colourings(int c) {
        if (c < 2 || c > 4) return BAD;
        int ways = 0;
        int all = 1;
        for (int e = 0; e < n; e++) all *= c;
        for (int way = 0; way < all; way++) {
            int[] classes = new int[c];
            int rest = way;
            for (int e = 0; e < n; e++) {
                classes[rest % c] |= 1 << e;
                rest /= c;
            }
            if (noSetIn(classes)) ways++;
        }
        return ways;
    }

    int colouring() {
        for (int x = 0; x <= all(); x++) {
            if (noSetIn(new int[] {x, all() & ~x})) return x;
        }
        return NONE;
    }

    int ears() {
        Map<Integer, Set<Integer>> left = new HashMap<>();
        for (int i = 0; i < sets.size(); i++) left.put(i, elementsOf(sets.get(i)));
        while (oneGoes(left)) {
            continue;
        }
        int bits = 0;
        for (int i : left.keySet()) bits |= 1 << i;
        return bits;
    }

    int twoByTwo() {
        for (int three = 0; three <= all(); three++) {
            if (Integer.bitCount(three) != 3) continue;
            int lot = 0;
            for (int i = 0; i < sets.size(); i++) {
                if (Integer.bitCount(sets.get(i) & three) >= 2) lot |= 1 << i;
            }
            if (lot != 0 && commonOfAll(lot) == 0) return three;
        }
        return NONE;
    }

    /** What the document says twoByTwo() tells when it answers NONE; found by way of all lots of SETS. */
    boolean lotsThatMeetHaveCommon() {
        for (int lot = 1; lot < 1 << sets.size(); lot++) {
            if (meetsTwoByTwo(lot) && commonOfAll(lot) == 0) return false;
        }
        return true;
    }

    // ---- games, chances, questions

    int game(int begins, int what) {
        if (begins < 0 || begins > 1 || what < 0 || what > 1) return BAD;
        Map<Integer, Integer> told = new HashMap<>();
        int move = NONE;
        for (int e = n - 1; e >= 0; e--) {
            int maker = begins == 0 ? 1 << e : 0;
            int breaker = begins == 1 ? 1 << e : 0;
            if (winner(maker, breaker, 1 - begins, told) == begins) move = e;
        }
        int who = winner(0, 0, begins, told);
        if ((who == begins) != (move != NONE)) throw new IllegalStateException("the model is at odds with itself");
        return what == 0 ? who : move;
    }

    int chance(int a, int b) {
        if (b < 1 || b > 10 || a < 0 || a > b) return BAD;
        BigInteger sum = BigInteger.ZERO;
        for (int x : allMeeters()) {
            int there = Integer.bitCount(x);
            sum = sum.add(BigInteger.valueOf(a).pow(there).multiply(BigInteger.valueOf(b - a).pow(n - there)));
        }
        become(sum, BigInteger.valueOf(b).pow(n));
        return 1;
    }

    long part(int what) {
        if (what != 0 && what != 1) return -1;
        return (what == 0 ? above : below).longValueExact();
    }

    int swings(int element) {
        if (element < 0 || element >= n) return BAD;
        int many = 0;
        for (int x = 0; x <= all(); x++) {
            if ((x >> element & 1) == 0 && !isMeeter(x) && isMeeter(x | 1 << element)) many++;
        }
        return many;
    }

    int questions(int what) {
        if (what != 0 && what != 1) return BAD;
        if (sets.isEmpty() || sets.size() > 12) return NO;
        Map<Integer, Integer> told = new HashMap<>();
        int all = (1 << sets.size()) - 1;
        int due = fewestQuestions(all, told);
        if (what == 0) return due;
        for (int e = 0; e < n && due > 0; e++) {
            int yes = havingOf(all, e);
            if (yes == 0 || yes == all) continue;
            if (1 + Math.max(fewestQuestions(yes, told), fewestQuestions(all & ~yes, told)) == due) return e;
        }
        return NONE;
    }

    int count(int what) {
        return what == 0 ? n : what == 1 ? sets.size() : what == 2 ? others.size() : BAD;
    }

    long digest() {
        List<Long> row = new ArrayList<>();
        for (int what = 0; what <= 2; what++) row.add((long) count(what));
        for (int s : sets) row.add((long) s);
        for (int t : others) row.add((long) t);
        for (int e = 0; e < n; e++) row.add((long) costs[e]);
        row.add((long) meeters());
        row.add((long) best(0));
        row.add((long) best(1));
        row.add((long) apart());
        row.add((long) ears());
        row.add(part(0));
        row.add(part(1));
        long h = 439;
        for (long v : row) h = 31 * h + v;
        return h;
    }

    // ---- the words the document uses

    private int all() {
        return (1 << n) - 1;
    }

    private static boolean liesIn(int s, int x) {
        return (s & ~x) == 0;
    }

    private boolean isMeeter(int x) {
        for (int s : sets) {
            if ((s & x) == 0) return false;
        }
        return true;
    }

    private List<Integer> allMeeters() {
        List<Integer> found = new ArrayList<>();
        for (int x = 0; x <= all(); x++) {
            if (isMeeter(x)) found.add(x);
        }
        return found;
    }

    private List<Integer> leastMeeters() {
        List<Integer> all = allMeeters();
        List<Integer> found = new ArrayList<>();
        for (int x : all) {
            boolean least = true;
            for (int y : all) least &= y == x || !liesIn(y, x);
            if (least) found.add(x);
        }
        return found;
    }

    private int price(int x) {
        int sum = 0;
        for (int e : elementsOf(x)) sum += costs[e];
        return sum;
    }

    private static Set<Integer> elementsOf(int x) {
        Set<Integer> found = new HashSet<>();
        for (int e = 0; e < 10; e++) {
            if ((x >> e & 1) == 1) found.add(e);
        }
        return found;
    }

    private int commonOfAll(int lot) {
        int common = all();
        for (int i = 0; i < sets.size(); i++) {
            if ((lot >> i & 1) == 1) common &= sets.get(i);
        }
        return common;
    }

    private boolean commonOfAnyTwo(int lot, int common) {
        for (int i = 0; i < sets.size(); i++) {
            for (int j = 0; j < i; j++) {
                if ((lot >> i & lot >> j & 1) == 1 && (sets.get(i) & sets.get(j)) != common) return false;
            }
        }
        return true;
    }

    private boolean meetsTwoByTwo(int lot) {
        for (int i = 0; i < sets.size(); i++) {
            for (int j = 0; j < i; j++) {
                if ((lot >> i & lot >> j & 1) == 1 && (sets.get(i) & sets.get(j)) == 0) return false;
            }
        }
        return true;
    }

    private Set<Integer> traces(int y) {
        Set<Integer> found = new HashSet<>();
        for (int s : sets) found.add(s & y);
        return found;
    }

    private static Set<Integer> partsOf(int y) {
        Set<Integer> found = new HashSet<>();
        for (int x = 0; x <= y; x++) {
            if (liesIn(x, y)) found.add(x);
        }
        return found;
    }

    private boolean noSetIn(int[] classes) {
        for (int s : sets) {
            for (int x : classes) {
                if (liesIn(s, x)) return false;
            }
        }
        return true;
    }

    private boolean oneGoes(Map<Integer, Set<Integer>> left) {
        for (int e = 0; e < n; e++) {
            int lies = 0;
            for (Set<Integer> s : left.values()) lies += s.contains(e) ? 1 : 0;
            if (lies == 1) {
                for (Set<Integer> s : left.values()) s.remove(e);
                return true;
            }
        }
        for (int i = 0; i < sets.size(); i++) {
            if (!left.containsKey(i)) continue;
            boolean goes = left.get(i).isEmpty();
            for (int j : left.keySet()) goes |= j != i && left.get(j).containsAll(left.get(i));
            if (goes) {
                left.remove(i);
                return true;
            }
        }
        return false;
    }

    /** Plays till all are taken, as the document says, and only then looks who has won. */
    private int winner(int maker, int breaker, int turn, Map<Integer, Integer> told) {
        int key = maker << 10 | breaker;
        Integer known = told.get(key);
        if (known != null) return known;
        int found = 1 - turn;
        if ((maker | breaker) == all()) {
            found = 1;
            for (int s : sets) {
                if (liesIn(s, maker)) found = 0;
            }
        } else {
            for (int e = 0; e < n; e++) {
                int bit = 1 << e;
                if (((maker | breaker) & bit) != 0) continue;
                int after = turn == 0
                    ? winner(maker | bit, breaker, 1, told)
                    : winner(maker, breaker | bit, 0, told);
                if (after == turn) found = turn;
            }
        }
        told.put(key, found);
        return found;
    }

    private int havingOf(int lot, int e) {
        int found = 0;
        for (int i = 0; i < sets.size(); i++) {
            if ((lot >> i & 1) == 1 && (sets.get(i) >> e & 1) == 1) found |= 1 << i;
        }
        return found;
    }

    private int fewestQuestions(int lot, Map<Integer, Integer> told) {
        if (Integer.bitCount(lot) <= 1) return 0;
        Integer known = told.get(lot);
        if (known != null) return known;
        int found = Integer.MAX_VALUE;
        for (int e = 0; e < n; e++) {
            int yes = havingOf(lot, e);
            if (yes == 0 || yes == lot) continue;
            found = Math.min(found, 1 + Math.max(fewestQuestions(yes, told), fewestQuestions(lot & ~yes, told)));
        }
        told.put(lot, found);
        return found;
    }

    private void become(BigInteger newAbove, BigInteger newBelow) {
        BigInteger common = newAbove.gcd(newBelow);
        above = newAbove.divide(common);
        below = newBelow.divide(common);
    }
}
