import java.util.Arrays;

/** Promise 5, cost: COST: what it was. BAD. */
public final class Promise05CostTest {
    public static void main(String[] args) {
        Checks.runAll(Promise05CostTest.class);
    }

    static void whatItWasIsTold(Checks c) {
        MeetSets x = new MeetSets();
        c.due("1 at first", x.cost(3, 7), 1);
        c.due("then as it was set", x.cost(3, 7), 7);
        c.due("again", x.cost(3, 2), 7);
        c.due("another element's", x.cost(4, 2), 1);
    }

    static void zeroToTwentyAreAsTold(Checks c) {
        MeetSets x = Lists.of(1);
        int was = 1;
        for (int v = 0; v <= 20; v++) {
            c.due("cost(0, " + v + ")", x.cost(0, v), was);
            was = v;
        }
        c.due("20 is kept", x.cost(0, 0), 20);
        c.due("0 is kept", x.cost(0, 1), 0);
    }

    static void theLeastAndTheGreatestElementOfEachGround(Checks c) {
        for (int n = 1; n <= 10; n++) {
            MeetSets x = Lists.of(n);
            c.due("cost(0, 20) of " + n, x.cost(0, 20), 1);
            c.due("the last of " + n, x.cost(n - 1, 0), n == 1 ? 20 : 1);
            c.due("it is kept", x.cost(n - 1, 0), 0);
        }
    }

    static void anElementBelowZeroIsBad(Checks c) {
        Held.refusedBelow(c, "cost(.., 2)", n -> -1, (x, v) -> x.cost(v, 2), MeetSets.BAD);
    }

    static void anElementBeyondTheGroundIsBad(Checks c) {
        Held.refusedAbove(c, "cost(.., 2)", n -> n, (x, v) -> x.cost(v, 2), MeetSets.BAD);
    }

    static void aCostBelowZeroIsBad(Checks c) {
        Held.refusedBelow(c, "cost(0, ..)", n -> -1, (x, v) -> x.cost(0, v), MeetSets.BAD);
    }

    static void aCostAboveTwentyIsBad(Checks c) {
        Held.refusedAbove(c, "cost(0, ..)", n -> 21, (x, v) -> x.cost(0, v), MeetSets.BAD);
    }

    static void bothWrongIsBad(Checks c) {
        int least = Integer.MIN_VALUE;
        int greatest = Integer.MAX_VALUE;
        for (int e : new int[] {-1, 10, least, greatest}) {
            for (int v : new int[] {-1, 21, least, greatest}) {
                Held.staysInAll(c, "cost(" + e + ", " + v + ")", x -> x.cost(e, v), MeetSets.BAD);
            }
        }
    }

    /** No word of the document but CHEAPEST, SHARES and digest speaks of COST. */
    static void noOtherCallLooksAtCosts(Checks c) {
        for (int[] sets : new int[][] {Lists.NO_SETS, Lists.TRIANGLE, Lists.FANO, Lists.FIVE_PAIRS, Lists.PETERSEN_AND_ALL}) {
            MeetSets x = Lists.of(10, sets);
            MeetSets y = Lists.of(10, sets);
            for (int e = 0; e < 10; e++) y.cost(e, 20 - 2 * e);
            c.same("a list of " + sets.length, answersWithoutCosts(y), answersWithoutCosts(x));
        }
    }

    private static String answersWithoutCosts(MeetSets x) {
        long[] row = {
            x.meeters(), x.meeter(0), x.best(0), x.take(), x.witness(), x.apart(), x.star(0), x.star(1), x.seen(7),
            x.dimension(0), x.dimension(1), x.colourings(2), x.colourings(3), x.colouring(), x.ears(), x.twoByTwo(),
            x.game(0, 1), x.game(1, 1), x.chance(1, 3), x.part(0), x.part(1), x.swings(9), x.questions(0), x.questions(1),
            x.count(0), x.count(1), x.count(2), x.otherless(), x.drop()};
        return Arrays.toString(row);
    }

    static void allElseStays(Checks c) {
        MeetSets x = Held.TEN_FULL.make();
        x.cost(9, 5);
        x.cost(9, 20);
        Held.TEN_FULL.look(c, "after a cost was put back", x);
    }
}
