/** Promise 27, count: How many: 0 ELEMENTS, 1 SETS, 2 sets of THE OTHER LIST. BAD. */
public final class Promise27CountTest {
    public static void main(String[] args) {
        Checks.runAll(Promise27CountTest.class);
    }

    static void zeroToTwoAreAsTold(Checks c) {
        for (Held held : Held.ALL) {
            held.stays(c, "count(0)", x -> x.count(0), held.n);
            held.stays(c, "count(1)", x -> x.count(1), held.sets.length);
            held.stays(c, "count(2)", x -> x.count(2), held.others.length);
        }
    }

    static void elementsFromOneToTen(Checks c) {
        for (int n = 1; n <= 10; n++) c.due("count(0)", Lists.of(n).count(0), n);
    }

    static void setsFromNoneToSixteen(Checks c) {
        MeetSets x = Lists.of(5);
        for (int s = 1; s <= 16; s++) {
            c.due("count(1)", x.count(1), s - 1);
            x.set(s);
        }
        x.set(17);
        c.due("count(1) of a full list", x.count(1), 16);
        c.due("count(2) is not count(1)", x.count(2), 0);
    }

    static void setsOfTheOtherListFromNoneToForty(Checks c) {
        MeetSets x = Lists.of(6);
        for (int t = 0; t < 40; t++) {
            c.due("count(2)", x.count(2), t);
            x.other(t);
        }
        x.other(40);
        c.due("count(2) of a full list", x.count(2), 40);
        c.due("count(1) is not count(2)", x.count(1), 0);
    }

    static void belowZeroIsBad(Checks c) {
        Held.refusedBelow(c, "count", n -> -1, MeetSets::count, MeetSets.BAD);
    }

    static void aboveTwoIsBad(Checks c) {
        Held.refusedAbove(c, "count", n -> 3, MeetSets::count, MeetSets.BAD);
    }
}
