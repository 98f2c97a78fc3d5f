/** Promise 17, dimension: DIMENSION: how many (0; NONE: an empty LIST), the part (1; NONE). BAD. */
public final class Promise17DimensionTest {
    public static void main(String[] args) {
        Checks.runAll(Promise17DimensionTest.class);
    }

    private static void is(Checks c, String what, MeetSets x, int many, int part) {
        c.due(what + ": dimension(0)", x.dimension(0), many);
        c.due(what + ": dimension(1)", x.dimension(1), part);
    }

    static void ofAnEmptyListIsNone(Checks c) {
        for (Held held : Held.WITH_EMPTY_LIST) {
            held.stays(c, "dimension(0)", x -> x.dimension(0), MeetSets.NONE);
            held.stays(c, "dimension(1)", x -> x.dimension(1), MeetSets.NONE);
        }
    }

    /** One SET has one set in common with any part: of none at all that is all parts. */
    static void ofOneSetItIsNoneAtAll(Checks c) {
        for (int n = 1; n <= 10; n++) is(c, "all of " + n, Lists.of(n, Lists.all(n)), 0, 0);
        Held.ONE_ALL.stays(c, "dimension(0)", x -> x.dimension(0), 0);
        Held.ONE_ALL.stays(c, "dimension(1)", x -> x.dimension(1), 0);
    }

    static void twoSetsDifferInOneElementAtLeast(Checks c) {
        is(c, "in 9", Lists.of(10, 1, 513), 1, 512);
        is(c, "in 0 and 1", Lists.of(2, 1, 2), 1, 1);
        is(c, "three SETS are too few for two", Lists.of(3, Lists.TRIANGLE), 1, 1);
        is(c, "four SETS that are just enough", Lists.of(3, 4, 5, 6, 7), 2, 3);
    }

    static void ofLikeOnesTheLeastNumber(Checks c) {
        is(c, "fano", Lists.of(7, Lists.FANO), 2, 3);
        is(c, "petersen and all", Held.LIST_FULL.make(), 2, 3);
        is(c, "0 and 1 lie in all", Lists.of(4, 3, 7, 11, 15), 2, 12);
    }

    static void sixteenSetsMaySeeAllOfFour(Checks c) {
        is(c, "one to sixteen", Lists.oneToSixteen(5), 4, 15);
        MeetSets last = Lists.of(10);
        for (int part = 0; part < 16; part++) last.set(1 | part << 6);
        is(c, "the last four of ten", last, 4, 15 << 6);
        last.drop();
        is(c, "less one SET", last, 3, 7 << 6);
    }

    static void belowZeroIsBadAndToldBeforeNone(Checks c) {
        Held.refusedBelow(c, "dimension", n -> -1, MeetSets::dimension, MeetSets.BAD);
    }

    static void aboveOneIsBadAndToldBeforeNone(Checks c) {
        Held.refusedAbove(c, "dimension", n -> 2, MeetSets::dimension, MeetSets.BAD);
    }
}
