/** Promise 19, colouring: FIRST. NONE: there is none. */
public final class Promise19ColouringTest {
    public static void main(String[] args) {
        Checks.runAll(Promise19ColouringTest.class);
    }

    static void ofAnEmptyListNoneHasTheSecondColour(Checks c) {
        for (int n = 1; n <= 10; n++) c.due("a ground of " + n, Lists.of(n).colouring(), 0);
        for (Held held : Held.WITH_EMPTY_LIST) held.stays(c, "colouring()", MeetSets::colouring, 0);
    }

    static void thereIsNone(Checks c) {
        c.due("fano", Lists.of(7, Lists.FANO).colouring(), MeetSets.NONE);
        c.due("a triangle", Lists.of(3, Lists.TRIANGLE).colouring(), MeetSets.NONE);
        Held.ONE_ALL.stays(c, "a single", MeetSets::colouring, MeetSets.NONE);
        for (int e = 0; e < 10; e++) c.due("the single " + e, Lists.of(10, 1 << e).colouring(), MeetSets.NONE);
    }

    static void theLeastSetOfTheSecondColour(Checks c) {
        c.due("fano less a line: just that line has one colour", Lists.of(7, 7, 25, 97, 42, 82, 76).colouring(), 11);
        c.due("five pairs", Lists.of(10, Lists.FIVE_PAIRS).colouring(), 341);
        c.due("all ten", Lists.of(10, 1023).colouring(), 1);
        c.due("the last pair", Lists.of(10, 768).colouring(), 256);
        c.due("a ring of ten", Lists.of(10, Lists.ring(10)).colouring(), 341);
    }

    /** What is left has the first colour and would do as well, so the first is below half of all parts. */
    static void theGreatestThereCanBe(Checks c) {
        for (int n = 2; n <= 10; n++) {
            MeetSets x = Lists.of(n);
            for (int e = 0; e < n - 1; e++) x.set(Lists.pair(e, n - 1));
            c.due("all but the last of " + n, x.colouring(), Lists.all(n - 1));
        }
    }

    static void ofAFullList(Checks c) {
        Held.LIST_FULL.stays(c, "colouring()", MeetSets::colouring, MeetSets.NONE);
        Held.TEN_FULL.stays(c, "colouring()", MeetSets::colouring, MeetSets.NONE);
        MeetSets x = Lists.of(10);
        for (int s = 0; s < 16; s++) x.set(513 | s << 3);
        c.due("0 and 9 lie in all sixteen: 0 alone does", x.colouring(), 1);
    }
}
