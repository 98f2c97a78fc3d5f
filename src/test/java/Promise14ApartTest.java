/** Promise 14, apart: APART: SETS as bits. */
public final class Promise14ApartTest {
    public static void main(String[] args) {
        Checks.runAll(Promise14ApartTest.class);
    }

    static void ofAnEmptyListThereAreNone(Checks c) {
        for (Held held : Held.WITH_EMPTY_LIST) held.stays(c, "apart()", MeetSets::apart, 0);
    }

    static void oneSetIsApart(Checks c) {
        for (int n = 1; n <= 10; n++) c.due("all of " + n, Lists.of(n, Lists.all(n)).apart(), 1);
        Held.ONE_ALL.stays(c, "apart()", MeetSets::apart, 1);
    }

    static void theMostOfWhichNoTwoMeet(Checks c) {
        c.due("five pairs", Lists.of(10, Lists.FIVE_PAIRS).apart(), 31);
        c.due("ten singles", Lists.of(10, Lists.TEN_SINGLES).apart(), 1023);
        c.due("the great one is left out", Lists.of(4, 15, 3, 12).apart(), 6);
        c.due("two, though the least bits are of one that meets both", Lists.of(4, 6, 3, 12).apart(), 6);
    }

    static void ofLikeOnesTheLeastAsBits(Checks c) {
        c.due("a triangle", Lists.of(3, Lists.TRIANGLE).apart(), 1);
        c.due("fano", Lists.of(7, Lists.FANO).apart(), 1);
        c.due("petersen's spokes", Lists.of(10, Lists.PETERSEN).apart(), 31 << 5);
        c.due("two pairs of pairs", Lists.of(4, 3, 12, 5, 10).apart(), 3);
        c.due("the pairs crossed", Lists.of(4, 3, 5, 12, 10).apart(), 5);
        c.due("0 and 3 are more as bits than 1 and 2", Lists.of(4, 3, 5, 10, 12).apart(), 6);
    }

    static void ofAFullList(Checks c) {
        Held.LIST_FULL.stays(c, "apart()", MeetSets::apart, 31 << 5);
        Held.TEN_FULL.stays(c, "apart()", MeetSets::apart, 31 << 5);
        c.due("the singles of one to sixteen", Lists.oneToSixteen(5).apart(), 1 << 0 | 1 << 1 | 1 << 3 | 1 << 7 | 1 << 15);
        int[] tenLast = {3, 5, 6, 9, 10, 12, 1, 2, 4, 8, 16, 32, 64, 128, 256, 512};
        c.due("ten singles as the last ten", Lists.of(10, tenLast).apart(), 1023 << 6);
    }
}
