/** Promise 11, take: THE OTHER LIST is all LEAST MEETERS: how many. NO: above 40. */
public final class Promise11TakeTest {
    public static void main(String[] args) {
        Checks.runAll(Promise11TakeTest.class);
    }

    static void allLeastMeetersAreThere(Checks c) {
        MeetSets x = Lists.of(3, Lists.TRIANGLE);
        c.due("take()", x.take(), 3);
        c.due("count(2)", x.count(2), 3);
        for (int t : new int[] {3, 5, 6}) c.due("other(" + t + ") is in it", x.other(t), MeetSets.BAD);
        c.due("they are dual", x.witness(), MeetSets.NONE);
    }

    static void theyAreInOrder(Checks c) {
        MeetSets x = Lists.of(3, Lists.TRIANGLE);
        x.take();
        c.due("digest()", x.digest(),
            Promise28DigestTest.mixed(3, 3, 3, 3, 6, 5, 3, 5, 6, 1, 1, 1, 3, 3, 3, 1, 7, 0, 1));
    }

    static void whatWasThereIsGone(Checks c) {
        MeetSets x = Lists.of(3, Lists.TRIANGLE);
        x.other(7);
        x.take();
        c.due("other(7) is not in it", x.other(7), 4);
        MeetSets full = Held.TEN_FULL.make();
        c.due("take() over a full one", full.take(), 15);
        c.due("count(2)", full.count(2), 15);
        c.due("they are dual", full.witness(), MeetSets.NONE);
        c.due("none is not in it", full.other(0), 16);
    }

    static void ofAnEmptyListItIsNoneAtAll(Checks c) {
        for (Held held : Held.WITH_EMPTY_LIST) {
            MeetSets x = held.make();
            c.due(held.name + ": take()", x.take(), 1);
            c.due(held.name + ": count(2)", x.count(2), 1);
            c.due(held.name + ": it is none", x.other(0), MeetSets.BAD);
            c.due(held.name + ": they are dual", x.witness(), MeetSets.NONE);
        }
    }

    static void onAGroundOfOne(Checks c) {
        MeetSets x = Held.ONE_ALL.make();
        c.due("take()", x.take(), 1);
        c.due("it is the single", x.other(1), MeetSets.BAD);
        c.due("none is not in it", x.other(0), 2);
    }

    static void fortyAreTaken(Checks c) {
        MeetSets x = Lists.of(10, Lists.OF_FORTY_MEETERS);
        c.due("take()", x.take(), 40);
        c.due("count(2)", x.count(2), 40);
        c.due("they are dual", x.witness(), MeetSets.NONE);
        c.due("and full", x.other(1023), MeetSets.FULL);
        c.due("take() again", x.take(), 40);
    }

    static void fortyOneAreNo(Checks c) {
        Held[] beyond = {
            Held.of("41 meeters, no others", 10, Lists.OF_FORTY_ONE_MEETERS, Lists.NO_SETS),
            Held.of("41 meeters, some others", 10, Lists.OF_FORTY_ONE_MEETERS, new int[] {7, 0}),
            Held.of("41 meeters, the other list full", 10, Lists.OF_FORTY_ONE_MEETERS, Lists.FORTY)};
        for (Held held : beyond) held.stays(c, "take()", MeetSets::take, MeetSets.NO);
    }

    static void allElseStays(Checks c) {
        MeetSets x = Held.LIST_FULL.make();
        x.take();
        x.otherless();
        Held.LIST_FULL.look(c, "after take() and otherless()", x);
    }
}
