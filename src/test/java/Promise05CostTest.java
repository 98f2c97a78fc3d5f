/** Promise 5, cost: COST: what it was. BAD. */
public final class Promise05CostTest {
    public static void main(String[] args) {
        Checks.runAll(Promise05CostTest.class);
    }

    static void whatItWasIsTold(Checks c) {
        MeetSets x = new MeetSets();
        c.due("1 at first", x.cost(3, 7), 1);
        c.due("then as it was set", x.cost(3, 7), 7);
        c.due("again", x.cost(3, 2), 7);
        c.due("another element's", x.cost(4, 2), 1);
    }

    static void zeroToTwentyAreAsTold(Checks c) {
        MeetSets x = Lists.of(1);
        int was = 1;
        for (int v = 0; v <= 20; v++) {
            c.due("cost(0, " + v + ")", x.cost(0, v), was);
            was = v;
        }
        c.due("20 is kept", x.cost(0, 0), 20);
        c.due("0 is kept", x.cost(0, 1), 0);
    }

    static void theLeastAndTheGreatestElementOfEachGround(Checks c) {
        for (int n = 1; n <= 10; n++) {
            MeetSets x = Lists.of(n);
            c.due("cost(0, 20) of " + n, x.cost(0, 20), 1);
            c.due("the last of " + n, x.cost(n - 1, 0), n == 1 ? 20 : 1);
            c.due("it is kept", x.cost(n - 1, 0), 0);
        }
    }

    static void anElementBelowZeroIsBad(Checks c) {
        Held.refusedBelow(c, "cost(.., 2)", n -> -1, (x, v) -> x.cost(v, 2), MeetSets.BAD);
    }

    static void anElementBeyondTheGroundIsBad(Checks c) {
        Held.refusedAbove(c, "cost(.., 2)", n -> n, (x, v) -> x.cost(v, 2), MeetSets.BAD);
    }

    static void aCostBelowZeroIsBad(Checks c) {
        Held.refusedBelow(c, "cost(0, ..)", n -> -1, (x, v) -> x.cost(0, v), MeetSets.BAD);
    }

    static void aCostAboveTwentyIsBad(Checks c) {
        Held.refusedAbove(c, "cost(0, ..)", n -> 21, (x, v) -> x.cost(0, v), MeetSets.BAD);
    }

    static void bothWrongIsBad(Checks c) {
        int least = Integer.MIN_VALUE;
        int greatest = Integer.MAX_VALUE;
        for (int e : new int[] {-1, 10, least, greatest}) {
            for (int v : new int[] {-1, 21, least, greatest}) {
                Held.staysInAll(c, "cost(" + e + ", " + v + ")", x -> x.cost(e, v), MeetSets.BAD);
            }
        }
    }

    static void allElseStays(Checks c) {
        MeetSets x = Held.TEN_FULL.make();
        x.cost(9, 5);
        x.cost(9, 20);
        Held.TEN_FULL.look(c, "after a cost was put back", x);
    }
}
