/** Promise 13, shares: SHARES is THE FRACTION: 1. */
public final class Promise13SharesTest {
    public static void main(String[] args) {
        Checks.runAll(Promise13SharesTest.class);
    }

    private static void are(Checks c, String what, MeetSets x, long above, long below) {
        c.due(what + ": shares()", x.shares(), 1);
        c.fraction(what, x, above, below);
    }

    private static MeetSets priced(int cost, int n, int... sets) {
        MeetSets x = Lists.of(n, sets);
        for (int e = 0; e < n; e++) x.cost(e, cost);
        return x;
    }

    static void sharesThatAreNotWhole(Checks c) {
        are(c, "a triangle", Lists.of(3, Lists.TRIANGLE), 3, 2);
        are(c, "fano", Lists.of(7, Lists.FANO), 7, 3);
        are(c, "a ring of nine", Lists.of(9, Lists.ring(9)), 9, 2);
        are(c, "all threes of five", Lists.of(5, 7, 11, 13, 14, 19, 21, 22, 25, 26, 28), 5, 3);
        int[] odd = {717, 315, 834, 182, 650, 541, 706, 460, 872, 691, 808, 721, 122, 295, 429, 106};
        are(c, "parts of 130", Lists.of(10, odd), 271, 130);
    }

    static void sharesThatAreWholeAreByOne(Checks c) {
        are(c, "petersen", Lists.of(10, Lists.PETERSEN), 5, 1);
        are(c, "ten singles", Lists.of(10, Lists.TEN_SINGLES), 10, 1);
    }

    static void ofAnEmptyListTheyAreZeroByOne(Checks c) {
        for (Held held : Held.WITH_EMPTY_LIST) are(c, held.name, held.make(), 0, 1);
    }

    static void ofAFullList(Checks c) {
        are(c, "one to sixteen", Lists.oneToSixteen(5), 5, 1);
        are(c, "petersen and all", Lists.of(10, Lists.PETERSEN_AND_ALL), 5, 1);
        are(c, "petersen and all for 20 each", priced(20, 10, Lists.PETERSEN_AND_ALL), 100, 1);
    }

    static void onAGroundOfOne(Checks c) {
        are(c, "for 1", Lists.of(1, 1), 1, 1);
        are(c, "for nothing", priced(0, 1, 1), 0, 1);
        are(c, "for 20", priced(20, 1, 1), 20, 1);
    }

    static void theLeastAndTheGreatestCosts(Checks c) {
        are(c, "fano for nothing", priced(0, 7, Lists.FANO), 0, 1);
        are(c, "fano for 20 each", priced(20, 7, Lists.FANO), 140, 3);
        are(c, "ten singles for 20 each", priced(20, 10, Lists.TEN_SINGLES), 200, 1);
        MeetSets dear = priced(20, 7, Lists.FANO);
        dear.cost(0, 0);
        are(c, "fano, point 0 for nothing: four lines are left, two a point", dear, 40, 1);
        MeetSets free = Lists.of(3, Lists.TRIANGLE);
        free.cost(0, 0);
        free.cost(1, 0);
        are(c, "a cover for nothing", free, 0, 1);
    }

    static void costsThatDiffer(Checks c) {
        MeetSets x = Lists.of(3, Lists.TRIANGLE);
        x.cost(0, 2);
        x.cost(1, 3);
        x.cost(2, 4);
        are(c, "halves of 2, 3 and 4", x, 9, 2);
        x.cost(2, 20);
        are(c, "0 and 1, as 2 is dear", x, 5, 1);
    }

    static void costsBeyondTheGroundDoNotMatter(Checks c) {
        MeetSets x = priced(0, 10);
        x.ground(3);
        for (int e = 0; e < 3; e++) x.cost(e, 1);
        for (int s : Lists.TRIANGLE) x.set(s);
        are(c, "a triangle", x, 3, 2);
    }

    static void allElseStays(Checks c) {
        for (Held held : Held.ALL) {
            MeetSets x = held.make();
            x.shares();
            MeetSets y = held.make();
            for (int what = 0; what <= 2; what++) c.due(held.name + ": count(" + what + ")", x.count(what), y.count(what));
            for (int e = 0; e < held.n; e++) c.due(held.name + ": COST of " + e, x.cost(e, 0), y.cost(e, 0));
            for (int i = 0; i <= held.sets.length; i++) c.due(held.name + ": drop()", x.drop(), y.drop());
            for (int t : held.others) c.due(held.name + ": other(" + t + ") is in it", x.other(t), MeetSets.BAD);
        }
    }
}
