/** Promise 20, ears: EARS: SETS that are left. */
public final class Promise20EarsTest {
    public static void main(String[] args) {
        Checks.runAll(Promise20EarsTest.class);
    }

    static void ofAnEmptyListNothingIsLeft(Checks c) {
        for (int n = 1; n <= 10; n++) c.due("a ground of " + n, Lists.of(n).ears(), 0);
        for (Held held : Held.WITH_EMPTY_LIST) held.stays(c, "ears()", MeetSets::ears, 0);
    }

    static void aSetThatIsEmptyGoes(Checks c) {
        for (int n = 1; n <= 10; n++) c.due("all of " + n, Lists.of(n, Lists.all(n)).ears(), 0);
        Held.ONE_ALL.stays(c, "ears()", MeetSets::ears, 0);
        c.due("five pairs", Lists.of(10, Lists.FIVE_PAIRS).ears(), 0);
    }

    static void aSetThatLiesInAnotherGoes(Checks c) {
        c.due("a path", Lists.of(3, 3, 6).ears(), 0);
        c.due("a triangle in one set", Lists.of(3, 3, 6, 5, 7).ears(), 0);
        c.due("a triangle in the first set", Lists.of(3, 7, 3, 6, 5).ears(), 0);
        c.due("a triangle with a tail", Lists.of(5, 3, 24, 6, 5, 12).ears(), 1 | 4 | 8);
    }

    static void whatDoesNotGoIsLeft(Checks c) {
        c.due("a triangle", Lists.of(3, Lists.TRIANGLE).ears(), 7);
        c.due("fano", Lists.of(7, Lists.FANO).ears(), 127);
        c.due("petersen", Lists.of(10, Lists.PETERSEN).ears(), 32767);
    }

    static void onlyAnElementInJustOneSetGoes(Checks c) {
        c.due("0 goes, a triangle is left", Lists.of(4, 7, 12, 10).ears(), 7);
        c.due("9 goes, a triangle is left", Lists.of(10, 515, 6, 5).ears(), 7);
        c.due("0 and 9 go, a triangle is left", Lists.of(10, 7, 524, 10).ears(), 7);
    }

    static void ofTwoThatAreNowAlikeTheLeastGoes(Checks c) {
        c.due("the first and the last", Lists.of(4, 3, 6, 5, 11).ears(), 14);
        c.due("the least by its number, not as bits", Lists.of(5, 19, 11, 6, 5).ears(), 14);
    }

    static void anElementGoesBeforeASet(Checks c) {
        c.due("3 goes from the first SET before the second goes", Lists.of(4, 11, 3, 6, 5).ears(), 14);
    }

    static void ofAFullList(Checks c) {
        Held.LIST_FULL.stays(c, "all lie in the last", MeetSets::ears, 0);
        Held.TEN_FULL.stays(c, "all lie in the last", MeetSets::ears, 0);
        c.due("one to sixteen", Lists.oneToSixteen(5).ears(), 0);
        int[] wide = {3, 6, 12, 24, 48, 96, 192, 384, 768, 513, 5, 10, 20, 40, 80, 160};
        c.due("all sixteen stand", Lists.of(10, wide).ears(), 65535);
    }
}
