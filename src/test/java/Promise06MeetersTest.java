/** Promise 6, meeters: How many LEAST MEETERS. */
public final class Promise06MeetersTest {
    public static void main(String[] args) {
        Checks.runAll(Promise06MeetersTest.class);
    }

    static void ofAnEmptyListNoneAtAllIsTheOnlyOne(Checks c) {
        for (int n = 1; n <= 10; n++) c.due("an empty list of " + n, Lists.of(n).meeters(), 1);
        for (Held held : Held.WITH_EMPTY_LIST) held.stays(c, "meeters()", MeetSets::meeters, 1);
    }

    static void onAGroundOfOne(Checks c) {
        Held.ONE_ALL.stays(c, "meeters()", MeetSets::meeters, 1);
    }

    static void ofAFullList(Checks c) {
        c.due("one to sixteen", Lists.oneToSixteen(5).meeters(), 1);
        Held.LIST_FULL.stays(c, "meeters()", MeetSets::meeters, 15);
        Held.TEN_FULL.stays(c, "meeters()", MeetSets::meeters, 15);
    }

    static void oneSetHasAsManyAsElements(Checks c) {
        for (int n = 1; n <= 10; n++) c.due("all of " + n, Lists.of(n, Lists.all(n)).meeters(), n);
    }

    static void aLeastOneHasNoPartThatIsOne(Checks c) {
        c.due("a greater set adds nothing", Lists.of(4, 3, 7, 15).meeters(), 2);
        c.due("a triangle", Lists.of(3, Lists.TRIANGLE).meeters(), 3);
        c.due("fano", Lists.of(7, Lists.FANO).meeters(), 7);
        c.due("five pairs", Lists.of(10, Lists.FIVE_PAIRS).meeters(), 32);
        c.due("ten singles", Lists.of(10, Lists.TEN_SINGLES).meeters(), 1);
        c.due("petersen", Lists.of(10, Lists.PETERSEN).meeters(), 15);
    }

    static void moreThanTheOtherListHolds(Checks c) {
        c.due("forty", Lists.of(10, Lists.OF_FORTY_MEETERS).meeters(), 40);
        c.due("forty-one", Lists.of(10, Lists.OF_FORTY_ONE_MEETERS).meeters(), 41);
    }
}
