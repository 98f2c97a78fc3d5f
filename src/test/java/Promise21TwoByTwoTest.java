/** Promise 21, twoByTwo: TWO BY TWO: the three. NONE. */
public final class Promise21TwoByTwoTest {
    public static void main(String[] args) {
        Checks.runAll(Promise21TwoByTwoTest.class);
    }

    static void ofAnEmptyListThereAreNoSuchSets(Checks c) {
        for (int n = 1; n <= 10; n++) c.due("a ground of " + n, Lists.of(n).twoByTwo(), MeetSets.NONE);
        for (Held held : Held.WITH_EMPTY_LIST) held.stays(c, "twoByTwo()", MeetSets::twoByTwo, MeetSets.NONE);
    }

    static void setsThatHaveNoTwoAreNoSuchSets(Checks c) {
        c.due("ten singles", Lists.of(10, Lists.TEN_SINGLES).twoByTwo(), MeetSets.NONE);
        c.due("a triangle of other elements only", Lists.of(6, 24, 48, 40).twoByTwo(), 56);
    }

    static void fewerThanThreeElementsAreNoThree(Checks c) {
        Held.ONE_ALL.stays(c, "twoByTwo()", MeetSets::twoByTwo, MeetSets.NONE);
        c.due("a ground of two", Lists.of(2, 1, 2, 3).twoByTwo(), MeetSets.NONE);
    }

    static void theyHaveNothingInCommon(Checks c) {
        Held.TRIANGLE.stays(c, "twoByTwo()", MeetSets::twoByTwo, 7);
        c.due("a triangle in one set", Lists.of(3, 3, 6, 5, 7).twoByTwo(), 7);
        c.due("fano: the three are no line", Lists.of(7, Lists.FANO).twoByTwo(), 11);
        c.due("a triangle whose three sets meet elsewhere", Lists.of(4, 11, 14, 13).twoByTwo(), MeetSets.NONE);
    }

    static void theLeastAndTheGreatestThree(Checks c) {
        c.due("the last three of ten", Lists.of(10, 768, 640, 384).twoByTwo(), 896);
        c.due("the first and the last three", Lists.of(10, 768, 640, 384, 3, 6, 5).twoByTwo(), 7);
    }

    static void eachLotThatMeetsHasAnElementInCommon(Checks c) {
        c.due("a ring of four", Lists.of(4, Lists.ring(4)).twoByTwo(), MeetSets.NONE);
        c.due("five pairs", Lists.of(10, Lists.FIVE_PAIRS).twoByTwo(), MeetSets.NONE);
        c.due("one SET", Lists.of(10, 1023).twoByTwo(), MeetSets.NONE);
    }

    static void ofAFullList(Checks c) {
        Held.LIST_FULL.stays(c, "petersen has no triangle", MeetSets::twoByTwo, MeetSets.NONE);
        Held.TEN_FULL.stays(c, "petersen has no triangle", MeetSets::twoByTwo, MeetSets.NONE);
        c.due("one to sixteen", Lists.oneToSixteen(5).twoByTwo(), 7);
    }
}
