/** Promise 1, a new object: as told; both lists are empty. */
public final class Promise01NewObjectTest {
    public static void main(String[] args) {
        Checks.runAll(Promise01NewObjectTest.class);
    }

    static void theConstantsAreAsTold(Checks c) {
        c.due("NONE", MeetSets.NONE, -1);
        c.due("BAD", MeetSets.BAD, -2);
        c.due("NO", MeetSets.NO, -3);
        c.due("FULL", MeetSets.FULL, -4);
    }

    static void thereAreEightElementsAtFirst(Checks c) {
        MeetSets x = new MeetSets();
        c.due("count(0)", x.count(0), 8);
        c.due("all eight", x.set(255), 0);
        c.due("a ninth", x.set(256), MeetSets.BAD);
        c.due("all eight in the other list", x.other(255), 1);
        c.due("a ninth in the other list", x.other(256), MeetSets.BAD);
        c.due("the COST of the eighth", x.cost(7, 1), 1);
        c.due("the COST of a ninth", x.cost(8, 1), MeetSets.BAD);
        c.due("all colourings of eight elements but two", x.colourings(2), 254);
    }

    static void bothListsAreEmpty(Checks c) {
        MeetSets x = new MeetSets();
        c.due("count(1)", x.count(1), 0);
        c.due("count(2)", x.count(2), 0);
        c.due("drop()", x.drop(), MeetSets.NO);
        c.due("otherless()", x.otherless(), 0);
        c.due("meeters()", x.meeters(), 1);
        c.due("witness()", x.witness(), 0);
        c.due("the first SET", x.set(1), 0);
        c.due("the first set of the other list", x.other(1), 1);
    }

    static void eachCostIsOneAtFirst(Checks c) {
        MeetSets x = new MeetSets();
        for (int e = 0; e < 8; e++) c.due("the COST of " + e, x.cost(e, 1), 1);
        x.ground(10);
        for (int e = 0; e < 10; e++) c.due("the COST of " + e + " of ten", x.cost(e, 1), 1);
    }

    static void theFractionIsZeroByOneAtFirst(Checks c) {
        c.fraction("at first", new MeetSets(), 0, 1);
    }

    static void allOfItIsInTheDigest(Checks c) {
        c.due("digest()", new MeetSets().digest(),
            Promise28DigestTest.mixed(8, 0, 0, 1, 1, 1, 1, 1, 1, 1, 1, 1, 0, 0, 0, 0, 0, 1));
    }

    static void objectsShareNothing(Checks c) {
        MeetSets x = Held.NEW.make();
        MeetSets y = Held.TEN_FULL.make();
        y.game(0, 0);
        Held.NEW.look(c, "one object, after calls on another", x);
        Held.TEN_FULL.look(c, "and the other", y);
    }
}
