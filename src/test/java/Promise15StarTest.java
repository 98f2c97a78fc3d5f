/** Promise 15, star: A STAR: SETS as bits (0), its core (1). NONE: fewer than two SETS. BAD. */
public final class Promise15StarTest {
    public static void main(String[] args) {
        Checks.runAll(Promise15StarTest.class);
    }

    private static void is(Checks c, String what, MeetSets x, int bits, int core) {
        c.due(what + ": star(0)", x.star(0), bits);
        c.due(what + ": star(1)", x.star(1), core);
    }

    static void ofNoSetIsNone(Checks c) {
        for (Held held : Held.WITH_EMPTY_LIST) {
            held.stays(c, "star(0)", x -> x.star(0), MeetSets.NONE);
            held.stays(c, "star(1)", x -> x.star(1), MeetSets.NONE);
        }
    }

    static void ofOneSetIsNone(Checks c) {
        Held.ONE_ALL.stays(c, "star(0)", x -> x.star(0), MeetSets.NONE);
        Held.ONE_ALL.stays(c, "star(1)", x -> x.star(1), MeetSets.NONE);
        for (int n = 1; n <= 10; n++) is(c, "all of " + n, Lists.of(n, Lists.all(n)), MeetSets.NONE, MeetSets.NONE);
    }

    static void anyTwoAreAStar(Checks c) {
        is(c, "two that meet", Lists.of(4, 7, 14), 3, 6);
        is(c, "two apart", Lists.of(2, 1, 2), 3, 0);
        is(c, "one in the other", Lists.of(2, 3, 1), 3, 1);
        is(c, "all of ten and all but one", Lists.of(10, 1023, 511), 3, 511);
    }

    static void theMostWithTheSameInCommon(Checks c) {
        is(c, "the lines of fano through 0", Lists.of(7, Lists.FANO), 7, 1);
        is(c, "the core may be one of them", Lists.of(4, 3, 5, 9, 1), 15, 1);
        is(c, "five pairs have no core", Lists.of(10, Lists.FIVE_PAIRS), 31, 0);
        is(c, "five, though their bits are more", Lists.of(6, 3, 12, 5, 9, 17, 33), 1 | 4 | 8 | 16 | 32, 1);
        is(c, "ten of ten", Lists.of(10, Lists.TEN_SINGLES), 1023, 0);
    }

    static void ofLikeOnesTheLeastAsBits(Checks c) {
        is(c, "a triangle", Lists.of(3, Lists.TRIANGLE), 3, 2);
        is(c, "two lots of three", Lists.of(8, 3, 48, 5, 80, 9, 144), 1 | 4 | 16, 1);
    }

    static void ofAFullList(Checks c) {
        is(c, "petersen and all: the spokes", Held.LIST_FULL.make(), 31 << 5, 0);
        is(c, "one to sixteen: the singles", Lists.oneToSixteen(5), 1 << 0 | 1 << 1 | 1 << 3 | 1 << 7 | 1 << 15, 0);
        int[] lastTen = {6, 10, 12, 18, 20, 24, 1, 3, 5, 9, 17, 33, 65, 129, 257, 513};
        is(c, "ten through 0 as the last ten", Lists.of(10, lastTen), 1023 << 6, 1);
    }

    static void belowZeroIsBadAndToldBeforeNone(Checks c) {
        Held.refusedBelow(c, "star", n -> -1, MeetSets::star, MeetSets.BAD);
    }

    static void aboveOneIsBadAndToldBeforeNone(Checks c) {
        Held.refusedAbove(c, "star", n -> 2, MeetSets::star, MeetSets.BAD);
    }
}
