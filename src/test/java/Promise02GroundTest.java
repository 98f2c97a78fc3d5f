/** Promise 2, ground: THE GROUND has n ELEMENTS, both lists are empty: 1. BAD. */
public final class Promise02GroundTest {
    public static void main(String[] args) {
        Checks.runAll(Promise02GroundTest.class);
    }

    static void oneToTenAreAsTold(Checks c) {
        for (int n = 1; n <= 10; n++) {
            MeetSets x = new MeetSets();
            c.due("ground(" + n + ")", x.ground(n), 1);
            c.due("count(0)", x.count(0), n);
            c.due("the greatest set of " + n, x.set(Lists.all(n)), 0);
            c.due("one beyond", x.set(1 << n), MeetSets.BAD);
            c.due("the COST of the last of " + n, x.cost(n - 1, 3), 1);
            c.due("the COST of one beyond", x.cost(n, 3), MeetSets.BAD);
        }
    }

    static void belowOneIsBad(Checks c) {
        Held.refusedBelow(c, "ground", n -> 0, MeetSets::ground, MeetSets.BAD);
    }

    static void aboveTenIsBad(Checks c) {
        Held.refusedAbove(c, "ground", n -> 11, MeetSets::ground, MeetSets.BAD);
    }

    static void bothListsAreEmptyAfterIt(Checks c) {
        for (int n = 1; n <= 10; n++) {
            for (Held held : Held.ALL) {
                MeetSets x = held.make();
                String what = held.name + ", ground(" + n + ")";
                c.due(what, x.ground(n), 1);
                c.due(what + ": count(0)", x.count(0), n);
                c.due(what + ": count(1)", x.count(1), 0);
                c.due(what + ": count(2)", x.count(2), 0);
                c.due(what + ": meeters()", x.meeters(), 1);
                c.due(what + ": meeter(0)", x.meeter(0), 0);
                c.due(what + ": witness() of two empty lists", x.witness(), 0);
                c.due(what + ": colourings(2)", x.colourings(2), 1 << n);
                c.due(what + ": drop()", x.drop(), MeetSets.NO);
                c.due(what + ": otherless()", x.otherless(), 0);
                c.due(what + ": what was there may come again", x.set(1), 0);
                c.due(what + ": and in the other list", x.other(0), 1);
            }
        }
    }

    static void theSameGroundAgainEmptiesThemToo(Checks c) {
        MeetSets x = Held.TEN_FULL.make();
        c.due("ground(10)", x.ground(10), 1);
        c.due("count(1)", x.count(1), 0);
        c.due("count(2)", x.count(2), 0);
    }

    static void costsAndTheFractionStay(Checks c) {
        for (Held held : Held.WITH_EMPTY_LIST) {
            if (held.others.length > 0) continue;
            MeetSets x = held.make();
            for (int n = 1; n <= 10; n++) x.ground(n);
            x.ground(held.n);
            held.look(c, held.name + ", after all other grounds", x);
        }
    }

    static void costsBeyondASmallGroundStay(Checks c) {
        MeetSets x = Lists.of(10);
        x.cost(9, 20);
        x.ground(1);
        x.ground(10);
        c.due("the COST of 9", x.cost(9, 1), 20);
    }
}
