/** Promise 9, other: A set of THE OTHER LIST (none may be): how many. BAD: it is in it, too; FULL: 40. */
public final class Promise09OtherTest {
    public static void main(String[] args) {
        Checks.runAll(Promise09OtherTest.class);
    }

    static void howManyIsFromOneToForty(Checks c) {
        MeetSets x = Lists.of(6);
        for (int t = 0; t < 40; t++) c.due("other(" + t + ")", x.other(t), t + 1);
        c.due("count(2)", x.count(2), 40);
    }

    static void noneMayBe(Checks c) {
        for (int n = 1; n <= 10; n++) {
            MeetSets x = Lists.of(n);
            c.due("other(0) of " + n, x.other(0), 1);
            c.due("it lies in all: dual to an empty list", x.witness(), MeetSets.NONE);
            c.due("other(0) again", x.other(0), MeetSets.BAD);
        }
    }

    static void theGreatestSetOfEachGround(Checks c) {
        for (int n = 1; n <= 10; n++) {
            MeetSets x = Lists.of(n);
            c.due("other(" + Lists.all(n) + ") of " + n, x.other(Lists.all(n)), 1);
            c.due("it is there", x.other(Lists.all(n)), MeetSets.BAD);
        }
    }

    static void belowNoneIsBad(Checks c) {
        Held.refusedBelow(c, "other", n -> -1, MeetSets::other, MeetSets.BAD);
        Held.refusedBelow(c, "other, its low bits as told", n -> -1 << n | 1, MeetSets::other, MeetSets.BAD);
    }

    static void elementsBeyondTheGroundAreBad(Checks c) {
        Held.refusedAbove(c, "other", n -> 1 << n, MeetSets::other, MeetSets.BAD);
        Held.refusedAbove(c, "other, its low bits as told", n -> 1 << n | 1, MeetSets::other, MeetSets.BAD);
    }

    static void whatIsInItIsBad(Checks c) {
        for (Held held : new Held[] {Held.ONE_ALL, Held.TRIANGLE, Held.OTHER_FULL, Held.TEN_FULL}) {
            for (int t : held.others) held.stays(c, "other(" + t + ")", x -> x.other(t), MeetSets.BAD);
        }
    }

    static void aFortyFirstIsFull(Checks c) {
        for (Held held : new Held[] {Held.OTHER_FULL, Held.TEN_FULL}) {
            for (int v : new int[] {1, 25, 27, 1023}) held.stays(c, "other(" + v + ")", x -> x.other(v), MeetSets.FULL);
        }
        Held six = Held.of("forty of six", 6, Lists.NO_SETS, Lists.steps(40, 1));
        for (int v = 40; v < 64; v++) {
            int t = v;
            six.stays(c, "other(" + v + ")", x -> x.other(t), MeetSets.FULL);
        }
    }

    static void aFortiethIsNotFull(Checks c) {
        MeetSets x = Lists.of(10);
        for (int t = 1; t < 40; t++) x.other(t);
        c.due("none as the fortieth", x.other(0), 40);
        c.due("a forty-first", x.other(1023), MeetSets.FULL);
    }

    static void badIsToldBeforeFull(Checks c) {
        for (Held held : new Held[] {Held.OTHER_FULL, Held.TEN_FULL}) {
            for (int v : new int[] {0, 26, 1014, -1, 1024, Integer.MIN_VALUE, Integer.MAX_VALUE}) {
                held.stays(c, "other(" + v + ")", x -> x.other(v), MeetSets.BAD);
            }
        }
    }

    /** There are only 32 unlike sets of five elements: the other list is never full. */
    static void allSetsOfFiveElementsDoNotFillIt(Checks c) {
        Held five = Held.of("all sets of five", 5, Lists.NO_SETS, Lists.steps(32, 1));
        for (int v = 0; v <= 32; v++) {
            int t = v;
            five.stays(c, "other(" + v + ")", x -> x.other(t), MeetSets.BAD);
        }
    }

    static void whatIsInTheListMayBeInItToo(Checks c) {
        MeetSets x = Held.LIST_FULL.make();
        for (int i = 0; i < 16; i++) c.due("other(" + Lists.PETERSEN_AND_ALL[i] + ")", x.other(Lists.PETERSEN_AND_ALL[i]), i + 1);
        c.due("count(1)", x.count(1), 16);
    }

    static void itIsNoSetOfTheList(Checks c) {
        MeetSets x = Lists.of(3);
        x.other(7);
        c.due("count(1)", x.count(1), 0);
        c.due("meeters()", x.meeters(), 1);
        c.due("drop()", x.drop(), MeetSets.NO);
    }
}
