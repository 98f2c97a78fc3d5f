/** Promise 8, best: FEWEST (0), CHEAPEST (1): the MEETER. BAD. */
public final class Promise08BestTest {
    public static void main(String[] args) {
        Checks.runAll(Promise08BestTest.class);
    }

    static void fewestLooksAtNoCost(Checks c) {
        MeetSets x = Lists.of(3, Lists.TRIANGLE);
        c.due("best(0)", x.best(0), 3);
        x.cost(0, 20);
        c.due("best(0), 0 dear", x.best(0), 3);
    }

    static void ofLikeFewOnesTheLeastNumber(Checks c) {
        c.due("best(0) of {1, 2}", Lists.of(4, 6).best(0), 2);
        c.due("two are fewer than three", Lists.of(5, 9, 10, 12, 16).best(0), 24);
        c.due("petersen", Lists.of(10, Lists.PETERSEN).best(0), 250);
    }

    static void cheapestIsTheLeastCostTogether(Checks c) {
        MeetSets x = Lists.of(3, Lists.TRIANGLE);
        c.due("all costs alike", x.best(1), 3);
        x.cost(0, 20);
        c.due("0 dear", x.best(1), 6);
        x.cost(0, 0);
        x.cost(2, 0);
        c.due("the two that cost nothing", x.best(1), 5);
        MeetSets many = Lists.of(4, 3, 5, 9);
        many.cost(0, 4);
        c.due("three for three, not one for four", many.best(1), 14);
    }

    static void ofLikeCheapOnesTheFewestThenTheLeast(Checks c) {
        MeetSets many = Lists.of(4, 3, 5, 9);
        many.cost(0, 3);
        c.due("one for three, not three for three", many.best(1), 1);
        MeetSets last = Lists.of(4, 9, 10, 12);
        last.cost(3, 3);
        c.due("one for three, though its number is greater", last.best(1), 8);
        MeetSets like = Lists.of(4, 6);
        c.due("of two like ones the least", like.best(1), 2);
        like.cost(1, 2);
        c.due("the cheaper one", like.best(1), 4);
    }

    static void whatCostsNothingIsNotTakenForNothing(Checks c) {
        MeetSets free = Lists.of(4, 12);
        for (int e = 0; e < 4; e++) free.cost(e, 0);
        c.due("the fewest", free.best(1), 4);
        MeetSets none = Lists.of(10);
        for (int e = 0; e < 10; e++) none.cost(e, 0);
        c.due("of an empty list", none.best(1), 0);
    }

    static void theDearestOfAll(Checks c) {
        MeetSets x = Lists.of(10, Lists.TEN_SINGLES);
        for (int e = 0; e < 10; e++) x.cost(e, 20);
        c.due("all ten for 200", x.best(1), 1023);
    }

    static void ofAnEmptyListNoneAtAll(Checks c) {
        for (Held held : Held.WITH_EMPTY_LIST) {
            held.stays(c, "best(0)", x -> x.best(0), 0);
            held.stays(c, "best(1)", x -> x.best(1), 0);
        }
    }

    static void onAGroundOfOne(Checks c) {
        Held.ONE_ALL.stays(c, "best(0)", x -> x.best(0), 1);
        Held.ONE_ALL.stays(c, "best(1)", x -> x.best(1), 1);
    }

    static void ofAFullList(Checks c) {
        Held.TEN_FULL.stays(c, "best(0)", x -> x.best(0), 250);
        c.due("one to sixteen, fewest", Lists.oneToSixteen(5).best(0), 31);
        c.due("one to sixteen, cheapest", Lists.oneToSixteen(5).best(1), 31);
    }

    static void belowZeroIsBad(Checks c) {
        Held.refusedBelow(c, "best", n -> -1, MeetSets::best, MeetSets.BAD);
    }

    static void aboveOneIsBad(Checks c) {
        Held.refusedAbove(c, "best", n -> 2, MeetSets::best, MeetSets.BAD);
    }
}
