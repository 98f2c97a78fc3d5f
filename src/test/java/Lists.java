import java.util.Arrays;

/** Lists that the tests of several promises use. */
final class Lists {
    static final int[] NO_SETS = {};
    static final int[] TRIANGLE = {3, 6, 5};
    /** Lines of seven points: any two points lie on one line, any two lines meet in one point. */
    static final int[] FANO = {7, 25, 97, 42, 82, 76, 52};
    /** Two rings of five, 0 to 4 and 5 to 9 (the inner one by steps of two), with five spokes. */
    static final int[] PETERSEN = {
        pair(0, 1), pair(1, 2), pair(2, 3), pair(3, 4), pair(4, 0),
        pair(0, 5), pair(1, 6), pair(2, 7), pair(3, 8), pair(4, 9),
        pair(5, 7), pair(7, 9), pair(9, 6), pair(6, 8), pair(8, 5)};
    /** Sixteen sets of ten elements: the pairs of petersen and, as what meets these meets it too, the whole ground. */
    static final int[] PETERSEN_AND_ALL = withLast(PETERSEN, 1023);
    static final int[] TEN_SINGLES = {1, 2, 4, 8, 16, 32, 64, 128, 256, 512};
    static final int[] FIVE_PAIRS = {3, 12, 48, 192, 768};
    static final int[] OF_FORTY_MEETERS = {20, 352, 928, 712, 11};
    static final int[] OF_FORTY_ONE_MEETERS = {120, 541, 740, 271, 402};
    /** Forty sets of ten elements, none at all among them, 1 and 1023 not. */
    static final int[] FORTY = steps(40, 26);

    private Lists() {
    }

    static int pair(int a, int b) {
        return 1 << a | 1 << b;
    }

    static int all(int n) {
        return (1 << n) - 1;
    }

    static int[] ring(int n) {
        int[] sets = new int[n];
        for (int e = 0; e < n; e++) sets[e] = pair(e, (e + 1) % n);
        return sets;
    }

    static int[] steps(int many, int width) {
        int[] row = new int[many];
        for (int i = 0; i < many; i++) row[i] = i * width;
        return row;
    }

    static int[] withLast(int[] row, int last) {
        int[] longer = Arrays.copyOf(row, row.length + 1);
        longer[row.length] = last;
        return longer;
    }

    static MeetSets of(int n, int... sets) {
        MeetSets x = new MeetSets();
        x.ground(n);
        for (int s : sets) x.set(s);
        return x;
    }

    /** The sets 1 to 16, all singles of five elements among them: n is 5 at least. */
    static MeetSets oneToSixteen(int n) {
        MeetSets x = of(n);
        for (int s = 1; s <= 16; s++) x.set(s);
        return x;
    }
}
