/** Promise 26, questions: QUESTIONS (0), the FIRST (1; NONE: nothing is to be asked). BAD; NO: no SETS, above 12. */
public final class Promise26QuestionsTest {
    private static final int[] TWELVE = {1, 2, 3, 4, 5, 6, 7, 8, 9, 10, 11, 12};

    public static void main(String[] args) {
        Checks.runAll(Promise26QuestionsTest.class);
    }

    private static void are(Checks c, String what, MeetSets x, int many, int first) {
        c.due(what + ": questions(0)", x.questions(0), many);
        c.due(what + ": questions(1)", x.questions(1), first);
    }

    static void noSetsIsNo(Checks c) {
        for (Held held : Held.WITH_EMPTY_LIST) {
            held.stays(c, "questions(0)", x -> x.questions(0), MeetSets.NO);
            held.stays(c, "questions(1)", x -> x.questions(1), MeetSets.NO);
        }
    }

    static void ofOneSetNothingIsToBeAsked(Checks c) {
        for (int n = 1; n <= 10; n++) are(c, "all of " + n, Lists.of(n, Lists.all(n)), 0, MeetSets.NONE);
        Held.ONE_ALL.stays(c, "questions(0)", x -> x.questions(0), 0);
        Held.ONE_ALL.stays(c, "questions(1)", x -> x.questions(1), MeetSets.NONE);
    }

    static void twoSetsTakeOne(Checks c) {
        for (int e = 1; e < 10; e++) are(c, "they differ in " + e, Lists.of(10, 1, 1 | 1 << e), 1, e);
        are(c, "the least that they differ in", Lists.of(10, 1023, 512 | 2), 1, 0);
    }

    static void twelveMayBeAsked(Checks c) {
        Held twelve = Held.of("twelve", 4, TWELVE, Lists.NO_SETS);
        twelve.stays(c, "questions(0)", x -> x.questions(0), 4);
        twelve.stays(c, "questions(1)", x -> x.questions(1), 0);
        are(c, "one to twelve of ten", Lists.of(10, TWELVE), 4, 0);
    }

    static void aboveTwelveIsNo(Checks c) {
        int[] row = TWELVE;
        for (int many = 13; many <= 16; many++) {
            row = Lists.withLast(row, many);
            Held held = Held.of(many + " SETS", 5, row, Lists.NO_SETS);
            held.stays(c, "questions(0)", x -> x.questions(0), MeetSets.NO);
            held.stays(c, "questions(1)", x -> x.questions(1), MeetSets.NO);
        }
        Held.TEN_FULL.stays(c, "questions(0)", x -> x.questions(0), MeetSets.NO);
        Held.TEN_FULL.stays(c, "questions(1)", x -> x.questions(1), MeetSets.NO);
    }

    static void afterADropToTwelveItIsToldAgain(Checks c) {
        MeetSets x = Lists.of(4, Lists.withLast(TWELVE, 13));
        c.due("thirteen", x.questions(0), MeetSets.NO);
        x.drop();
        are(c, "twelve", x, 4, 0);
    }

    /** {0, 1} and what differs from it in one element: of each element it must be asked. */
    static void theMostThereCanBe(Checks c) {
        MeetSets x = Lists.of(10, 3, 2, 1);
        for (int e = 2; e < 10; e++) x.set(3 | 1 << e);
        are(c, "eleven SETS", x, 10, 0);
        x.set(15);
        are(c, "twelve SETS", x, 10, 0);
        are(c, "ten singles: the last is told by the others", Lists.of(10, Lists.TEN_SINGLES), 9, 0);
    }

    static void theLeastElementByWhichThatMayBe(Checks c) {
        are(c, "fano", Lists.of(7, Lists.FANO), 3, 0);
        are(c, "a triangle", Lists.of(3, Lists.TRIANGLE), 2, 0);
        are(c, "0 would leave three", Lists.of(10, 1, 6, 10, 4), 2, 1);
        are(c, "0 and 1 lie in all", Lists.of(4, 3, 7, 11, 15), 2, 2);
    }

    static void belowZeroIsBadAndToldBeforeNo(Checks c) {
        Held.refusedBelow(c, "questions", n -> -1, MeetSets::questions, MeetSets.BAD);
    }

    static void aboveOneIsBadAndToldBeforeNo(Checks c) {
        Held.refusedAbove(c, "questions", n -> 2, MeetSets::questions, MeetSets.BAD);
        Held thirteen = Held.of("thirteen", 4, Lists.withLast(TWELVE, 13), Lists.NO_SETS);
        thirteen.stays(c, "questions(2)", x -> x.questions(2), MeetSets.BAD);
        thirteen.stays(c, "questions(-1)", x -> x.questions(-1), MeetSets.BAD);
    }
}
