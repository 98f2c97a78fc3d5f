/** Promise 16, seen: SEEN. BAD. */
public final class Promise16SeenTest {
    public static void main(String[] args) {
        Checks.runAll(Promise16SeenTest.class);
    }

    static void unlikeSetsAreCounted(Checks c) {
        MeetSets x = Lists.of(3, Lists.TRIANGLE);
        int[] due = {1, 2, 2, 3, 2, 3, 3, 3};
        for (int part = 0; part < 8; part++) c.due("seen(" + part + ")", x.seen(part), due[part]);
        c.due("what all SETS have alike", Lists.of(4, 7, 11, 3).seen(3), 1);
    }

    static void theLeastPartIsNone(Checks c) {
        for (int n = 1; n <= 10; n++) c.due("seen(0) of one SET of " + n, Lists.of(n, 1).seen(0), 1);
        Held.ONE_ALL.stays(c, "seen(0)", x -> x.seen(0), 1);
        Held.TEN_FULL.stays(c, "seen(0)", x -> x.seen(0), 1);
    }

    static void theGreatestPartIsTheWholeGround(Checks c) {
        Held.ONE_ALL.stays(c, "seen(1)", x -> x.seen(1), 1);
        Held.TRIANGLE.stays(c, "seen(7)", x -> x.seen(7), 3);
        Held.TEN_FULL.stays(c, "seen(1023)", x -> x.seen(1023), 16);
    }

    static void ofAnEmptyListNothingIsSeen(Checks c) {
        for (Held held : Held.WITH_EMPTY_LIST) {
            held.stays(c, "seen of none", x -> x.seen(0), 0);
            held.stays(c, "seen of all", x -> x.seen(Lists.all(held.n)), 0);
        }
    }

    static void ofAFullList(Checks c) {
        Held.LIST_FULL.stays(c, "seen(1)", x -> x.seen(1), 2);
        Held.LIST_FULL.stays(c, "seen(3)", x -> x.seen(3), 4);
        c.due("one to sixteen, its four elements", Lists.oneToSixteen(10).seen(15), 16);
        c.due("one to sixteen, the other five", Lists.oneToSixteen(10).seen(992), 1);
    }

    static void belowNoneIsBad(Checks c) {
        Held.refusedBelow(c, "seen", n -> -1, MeetSets::seen, MeetSets.BAD);
        Held.refusedBelow(c, "seen, its low bits as told", n -> -1 << n | 1, MeetSets::seen, MeetSets.BAD);
    }

    static void elementsBeyondTheGroundAreBad(Checks c) {
        Held.refusedAbove(c, "seen", n -> 1 << n, MeetSets::seen, MeetSets.BAD);
        Held.refusedAbove(c, "seen, its low bits as told", n -> 1 << n | 1, MeetSets::seen, MeetSets.BAD);
    }
}
