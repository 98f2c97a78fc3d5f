import java.math.BigInteger;
import java.util.Arrays;

/**
 * Promise 28, digest: h = 439; then h = 31 h + v for each v: count(0) to count(2); SETS; sets of THE OTHER LIST;
 * COSTS of ELEMENTS there are; meeters(), best(0), best(1), apart(), ears(); THE FRACTION.
 */
public final class Promise28DigestTest {
    /** 11155141014208819403 less 2 to the 64th. */
    private static final long SHORTEST = -7291603059500732213L;

    public static void main(String[] args) {
        Checks.runAll(Promise28DigestTest.class);
    }

    static long mixed(long... row) {
        return withoutBound(row).longValue();
    }

    /** What h would be if numbers had no end; longValue() of it keeps the last 64 bits. */
    private static BigInteger withoutBound(long... row) {
        BigInteger h = BigInteger.valueOf(439);
        for (long v : row) h = h.multiply(BigInteger.valueOf(31)).add(BigInteger.valueOf(v));
        return h;
    }

    private static long[] joined(long[]... rows) {
        long[] all = {};
        for (long[] row : rows) {
            int before = all.length;
            all = Arrays.copyOf(all, before + row.length);
            System.arraycopy(row, 0, all, before, row.length);
        }
        return all;
    }

    private static long[] asLongs(int[] row) {
        return Arrays.stream(row).asLongStream().toArray();
    }

    /** Eleven numbers are the fewest there are, and already too many for a long. */
    static void theShortestHasWrappedAround(Checks c) {
        long[] row = {1, 0, 0, 1, 1, 0, 0, 0, 0, 0, 1};
        BigInteger whole = withoutBound(row);
        c.same("it is beyond a long", whole.bitLength() > 63, true);
        c.due("an empty ground of one", Lists.of(1).digest(), whole.longValue());
        c.due("as a number", Lists.of(1).digest(), SHORTEST);
    }

    static void aValueThatIsBelowZero(Checks c) {
        c.same("the shortest is", Lists.of(1).digest() < 0, true);
    }

    static void aNewObject(Checks c) {
        c.due("digest()", new MeetSets().digest(), mixed(8, 0, 0, 1, 1, 1, 1, 1, 1, 1, 1, 1, 0, 0, 0, 0, 0, 1));
    }

    static void allThatItMixes(Checks c) {
        MeetSets x = Lists.of(3, Lists.TRIANGLE);
        x.other(7);
        x.other(0);
        x.cost(0, 20);
        x.cost(2, 0);
        x.chance(1, 3);
        long due = mixed(3, 3, 2, 3, 6, 5, 7, 0, 20, 1, 0, 3, 3, 6, 1, 7, 7, 27);
        c.due("digest()", x.digest(), due);
        c.due("digest() again", x.digest(), due);
    }

    static void bothListsFull(Checks c) {
        MeetSets x = Lists.of(10, Lists.PETERSEN_AND_ALL);
        for (int t : Lists.FORTY) x.other(t);
        x.chance(1, 2);
        long[] ones = {1, 1, 1, 1, 1, 1, 1, 1, 1, 1};
        long[] row = joined(new long[] {10, 16, 40}, asLongs(Lists.PETERSEN_AND_ALL), asLongs(Lists.FORTY), ones,
            new long[] {15, 250, 250, 992, 0, 19, 256});
        c.due("76 numbers", row.length, 76);
        c.due("digest()", x.digest(), mixed(row));
    }

    static void aFractionBeyondAnIntIsMixedWhole(Checks c) {
        MeetSets x = Lists.of(10, 1023);
        x.chance(1, 10);
        c.due("digest()", x.digest(),
            mixed(10, 1, 0, 1023, 1, 1, 1, 1, 1, 1, 1, 1, 1, 1, 10, 1, 1, 1, 0, 6513215599L, 10000000000L));
    }

    static void costsOfElementsThereAreOnly(Checks c) {
        MeetSets x = Lists.of(10);
        for (int e = 0; e < 10; e++) x.cost(e, 20 - e);
        for (int n = 1; n <= 10; n++) {
            x.ground(n);
            long[] costs = new long[n];
            for (int e = 0; e < n; e++) costs[e] = 20 - e;
            c.due("a ground of " + n, x.digest(), mixed(joined(new long[] {n, 0, 0}, costs, new long[] {1, 0, 0, 0, 0, 0, 1})));
        }
    }

    static void theOrderOfTheListsMatters(Checks c) {
        c.due("SETS as they came", Lists.of(3, 6, 3, 5).digest(), mixed(3, 3, 0, 6, 3, 5, 1, 1, 1, 3, 3, 3, 1, 7, 0, 1));
        MeetSets x = Lists.of(1);
        x.other(1);
        x.other(0);
        c.due("others as they came", x.digest(), mixed(1, 0, 2, 1, 0, 1, 1, 0, 0, 0, 0, 0, 1));
    }

    static void itChangesNothing(Checks c) {
        for (Held held : Held.ALL) {
            MeetSets x = held.make();
            c.due(held.name + ": digest() twice", x.digest(), x.digest());
            held.look(c, held.name + ", after digest()", x);
        }
    }
}
