/** Promise 25, swings: SWINGS. BAD. */
public final class Promise25SwingsTest {
    public static void main(String[] args) {
        Checks.runAll(Promise25SwingsTest.class);
    }

    static void ofAnEmptyListThereAreNone(Checks c) {
        for (int n = 1; n <= 10; n++) {
            for (int e = 0; e < n; e++) c.due("swings(" + e + ") of " + n, Lists.of(n).swings(e), 0);
        }
        for (Held held : Held.WITH_EMPTY_LIST) {
            held.stays(c, "swings(0)", x -> x.swings(0), 0);
            held.stays(c, "swings of the last", x -> x.swings(held.n - 1), 0);
        }
    }

    static void onAGroundOfOne(Checks c) {
        Held.ONE_ALL.stays(c, "swings(0)", x -> x.swings(0), 1);
    }

    static void theOnlyOneThatMattersHasTheMost(Checks c) {
        for (int n = 1; n <= 10; n++) {
            c.due("the last of " + n, Lists.of(n, 1 << (n - 1)).swings(n - 1), 1 << (n - 1));
            c.due("the first of " + n, Lists.of(n, 1).swings(0), 1 << (n - 1));
        }
    }

    static void oneThatDoesNotMatterHasNone(Checks c) {
        c.due("not in the SET", Lists.of(10, 512).swings(0), 0);
        c.due("not in the SET", Lists.of(10, 1).swings(9), 0);
    }

    static void setsThatItMakesAMeeter(Checks c) {
        for (int e = 0; e < 7; e++) c.due("fano's swings(" + e + ")", Lists.of(7, Lists.FANO).swings(e), 18);
        c.due("a path's middle", Lists.of(3, 3, 6).swings(1), 3);
        c.due("a path's end", Lists.of(3, 3, 6).swings(0), 1);
        c.due("all ten: none is the only one", Lists.of(10, 1023).swings(9), 1);
    }

    static void ofAFullList(Checks c) {
        for (int e = 0; e < 10; e++) {
            int element = e;
            Held.TEN_FULL.stays(c, "58 sets apart without it, 18 with it", x -> x.swings(element), 40);
        }
        for (int e = 0; e < 5; e++) c.due("one to sixteen", Lists.oneToSixteen(5).swings(e), 1);
        for (int e = 0; e < 5; e++) c.due("one to sixteen of ten", Lists.oneToSixteen(10).swings(e), 32);
        for (int e = 5; e < 10; e++) c.due("one to sixteen of ten", Lists.oneToSixteen(10).swings(e), 0);
    }

    static void belowZeroIsBad(Checks c) {
        Held.refusedBelow(c, "swings", n -> -1, MeetSets::swings, MeetSets.BAD);
    }

    static void anElementBeyondTheGroundIsBad(Checks c) {
        Held.refusedAbove(c, "swings", n -> n, MeetSets::swings, MeetSets.BAD);
    }
}
