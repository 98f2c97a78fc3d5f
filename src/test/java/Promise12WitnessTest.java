/** Promise 12, witness: WITNESS. NONE: they are DUAL. */
public final class Promise12WitnessTest {
    public static void main(String[] args) {
        Checks.runAll(Promise12WitnessTest.class);
    }

    static void theLeastForWhichNoneIsSo(Checks c) {
        MeetSets x = Lists.of(3, Lists.TRIANGLE);
        c.due("no other list", x.witness(), 0);
        x.other(3);
        c.due("no SET in {0}; {1, 2} has not {0, 1} in it", x.witness(), 1);
        x.other(6);
        c.due("no SET in {1}; {0, 2} has neither in it", x.witness(), 2);
    }

    static void theLeastForWhichBothAreSo(Checks c) {
        MeetSets x = Lists.of(3, Lists.TRIANGLE);
        x.take();
        x.other(1);
        c.due("{1, 2} has a SET in it, {0} is in the other list", x.witness(), 6);
    }

    static void noneIfTheyAreDual(Checks c) {
        MeetSets x = Lists.of(3, Lists.TRIANGLE);
        for (int t : Lists.TRIANGLE) x.other(t);
        c.due("a triangle", x.witness(), MeetSets.NONE);
        MeetSets fano = Lists.of(7, Lists.FANO);
        for (int s : Lists.FANO) fano.other(s);
        c.due("fano is its own other list", fano.witness(), MeetSets.NONE);
        fano.drop();
        c.due("less one line", fano.witness(), 52);
        MeetSets full = Held.LIST_FULL.make();
        full.take();
        c.due("a full list", full.witness(), MeetSets.NONE);
    }

    static void aGreaterOtherSetThatAddsNothingLeavesThemDual(Checks c) {
        MeetSets x = Lists.of(3, Lists.TRIANGLE);
        x.take();
        x.other(7);
        c.due("witness()", x.witness(), MeetSets.NONE);
    }

    static void twoEmptyLists(Checks c) {
        for (int n = 1; n <= 10; n++) c.due("of " + n, Lists.of(n).witness(), 0);
        for (Held held : new Held[] {Held.NEW, Held.ONE_EMPTY, Held.TEN_EMPTY}) {
            held.stays(c, "witness()", MeetSets::witness, 0);
        }
    }

    static void anEmptyOtherList(Checks c) {
        Held.LIST_FULL.stays(c, "witness()", MeetSets::witness, 0);
    }

    static void anEmptyListAndNoneAtAll(Checks c) {
        Held.OTHER_FULL.stays(c, "witness()", MeetSets::witness, MeetSets.NONE);
        Held.of("none at all", 1, Lists.NO_SETS, new int[] {0}).stays(c, "witness()", MeetSets::witness, MeetSets.NONE);
    }

    static void theGreatestWitnessIsTheWholeGround(Checks c) {
        for (int n = 1; n <= 10; n++) {
            MeetSets x = Lists.of(n, Lists.all(n));
            x.other(0);
            c.due("both are so of all " + n, x.witness(), Lists.all(n));
        }
    }

    static void fullLists(Checks c) {
        Held.TEN_FULL.stays(c, "none at all lies outside {0, 1}, too", MeetSets::witness, 3);
    }

    static void onAGroundOfOne(Checks c) {
        Held.ONE_ALL.stays(c, "both are so of {0}", MeetSets::witness, 1);
        MeetSets x = Lists.of(1, 1);
        c.due("no other list", x.witness(), 0);
        x.other(1);
        c.due("dual", x.witness(), MeetSets.NONE);
        x.drop();
        c.due("none is so of {0}", x.witness(), 1);
    }
}
