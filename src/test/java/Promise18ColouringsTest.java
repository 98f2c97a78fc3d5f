/** Promise 18, colourings: COLOURINGS. BAD. */
public final class Promise18ColouringsTest {
    public static void main(String[] args) {
        Checks.runAll(Promise18ColouringsTest.class);
    }

    private static void are(Checks c, String what, MeetSets x, int byTwo, int byThree, int byFour) {
        c.due(what + " by 2", x.colourings(2), byTwo);
        c.due(what + " by 3", x.colourings(3), byThree);
        c.due(what + " by 4", x.colourings(4), byFour);
    }

    private static int power(int base, int exponent) {
        int product = 1;
        for (int i = 0; i < exponent; i++) product *= base;
        return product;
    }

    static void ofAnEmptyListAllWaysDo(Checks c) {
        for (int n = 1; n <= 10; n++) are(c, "a ground of " + n, Lists.of(n), power(2, n), power(3, n), power(4, n));
        for (Held held : Held.WITH_EMPTY_LIST) {
            for (int colours = 2; colours <= 4; colours++) {
                int by = colours;
                held.stays(c, "colourings(" + by + ")", x -> x.colourings(by), power(by, held.n));
            }
        }
    }

    static void theWholeGroundAllowsAllButOneColourAlone(Checks c) {
        for (int n = 1; n <= 10; n++) {
            are(c, "all of " + n, Lists.of(n, Lists.all(n)), power(2, n) - 2, power(3, n) - 3, power(4, n) - 4);
        }
    }

    static void aSetOfOneElementAllowsNone(Checks c) {
        are(c, "the only one", Held.ONE_ALL.make(), 0, 0, 0);
        are(c, "the last of ten", Lists.of(10, 512), 0, 0, 0);
        are(c, "one to sixteen", Lists.oneToSixteen(10), 0, 0, 0);
    }

    static void ofAFullList(Checks c) {
        are(c, "petersen and all", Held.TEN_FULL.make(), 0, 120, 12960);
    }

    static void pairsAreNeighbours(Checks c) {
        are(c, "petersen", Lists.of(10, Lists.PETERSEN), 0, 120, 12960);
        are(c, "a ring of five", Lists.of(5, Lists.ring(5)), 0, 30, 240);
        are(c, "all pairs of four", Lists.of(4, 3, 5, 9, 6, 10, 12), 0, 0, 24);
        are(c, "five pairs", Lists.of(10, Lists.FIVE_PAIRS), 32, 7776, 248832);
    }

    static void belowTwoIsBad(Checks c) {
        Held.refusedBelow(c, "colourings", n -> 1, MeetSets::colourings, MeetSets.BAD);
        Held.staysInAll(c, "colourings(0)", x -> x.colourings(0), MeetSets.BAD);
    }

    static void aboveFourIsBad(Checks c) {
        Held.refusedAbove(c, "colourings", n -> 5, MeetSets::colourings, MeetSets.BAD);
    }
}
