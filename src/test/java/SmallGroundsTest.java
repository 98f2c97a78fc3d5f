import java.util.Arrays;

/** Every list of a small ground: each call that looks answers as the plain model does, so no small list is left out. */
public final class SmallGroundsTest {
    /** Nothing, alike, more, far more: what costs can do to one another. */
    private static final int[] SOME_COSTS = {0, 1, 2, 3, 20};

    private final Checks checks;
    private final int n;
    private MeetSets x;
    private PlainModel y;

    private SmallGroundsTest(Checks checks, int n) {
        this.checks = checks;
        this.n = n;
    }

    public static void main(String[] args) {
        Checks.runAll(SmallGroundsTest.class);
    }

    static void allListsOfOneToThreeInAllOrders(Checks c) {
        for (int n = 1; n <= 3; n++) new SmallGroundsTest(c, n).allOrdersFrom(Lists.NO_SETS);
    }

    static void allListsOfFour(Checks c) {
        SmallGroundsTest four = new SmallGroundsTest(c, 4);
        for (int lot = 0; lot < 1 << 15; lot++) {
            int[] sets = setsOf(lot, 1);
            four.start(lot % 2 == 0 ? sets : backwards(sets));
            four.lookAtAll();
            // The model's shares take longer than all the rest.
            if (lot % 16 == 0) four.lookAtShares();
        }
    }

    /** A pair of elements is a line of a graph: of five elements there are ten. */
    static void allGraphsOfFive(Checks c) {
        int[] lines = {3, 5, 6, 9, 10, 12, 17, 18, 20, 24};
        SmallGroundsTest five = new SmallGroundsTest(c, 5);
        for (int lot = 0; lot < 1 << 10; lot++) {
            int[] sets = setsOf(lot, 0);
            for (int i = 0; i < sets.length; i++) sets[i] = lines[sets[i]];
            five.start(sets);
            five.lookAtAll();
            five.lookAtShares();
        }
    }

    static void allPairsOfListsOfOneToThree(Checks c) {
        for (int n = 1; n <= 3; n++) {
            for (int lot = 0; lot < 1 << Lists.all(n); lot++) {
                for (int otherLot = 0; otherLot < 1 << (1 << n); otherLot++) {
                    new SmallGroundsTest(c, n).lookAtWitness(setsOf(lot, 1), setsOf(otherLot, 0));
                }
            }
        }
    }

    static void allCostsOfOneAndTwo(Checks c) {
        for (int n = 1; n <= 2; n++) {
            for (int lot = 0; lot < 1 << Lists.all(n); lot++) {
                for (int i = 0; i < (n == 1 ? 21 : 21 * 21); i++) {
                    new SmallGroundsTest(c, n).lookAtCosts(setsOf(lot, 1), i % 21, i / 21);
                }
            }
        }
    }

    static void someCostsOfThree(Checks c) {
        for (int lot = 0; lot < 1 << 7; lot++) {
            for (int i = 0; i < 125; i++) {
                int[] costs = {SOME_COSTS[i % 5], SOME_COSTS[i / 5 % 5], SOME_COSTS[i / 25]};
                new SmallGroundsTest(c, 3).lookAtCosts(setsOf(lot, 1), costs);
            }
        }
    }

    /** Bit i of the lot stands for the set first + i. */
    private static int[] setsOf(int lot, int first) {
        int[] sets = new int[Integer.bitCount(lot)];
        int many = 0;
        for (int i = 0; i < 31; i++) {
            if ((lot >> i & 1) == 1) sets[many++] = first + i;
        }
        return sets;
    }

    private static int[] backwards(int[] row) {
        int[] turned = new int[row.length];
        for (int i = 0; i < row.length; i++) turned[i] = row[row.length - 1 - i];
        return turned;
    }

    private void allOrdersFrom(int[] sets) {
        start(sets);
        lookAtAll();
        lookAtShares();
        for (int s = 1; s <= Lists.all(n); s++) {
            int next = s;
            if (Arrays.stream(sets).noneMatch(t -> t == next)) allOrdersFrom(Lists.withLast(sets, s));
        }
    }

    private void start(int[] sets) {
        checks.at("a ground of " + n + ", " + Arrays.toString(sets));
        x = Lists.of(n);
        y = new PlainModel();
        y.ground(n);
        for (int s : sets) checks.due("set", x.set(s), y.set(s));
    }

    private void lookAtAll() {
        lookAtMeeters();
        lookAtParts();
        lookAtGames();
        checks.due("take()", x.take(), y.take());
        checks.due("witness() after take()", x.witness(), y.witness());
        checks.due("digest()", x.digest(), y.digest());
    }

    private void lookAtMeeters() {
        int many = y.meeters();
        checks.due("meeters()", x.meeters(), many);
        for (int i = 0; i <= many; i++) checks.due("meeter", x.meeter(i), y.meeter(i));
        checks.due("best(0)", x.best(0), y.best(0));
        checks.due("best(1)", x.best(1), y.best(1));
        checks.due("witness()", x.witness(), y.witness());
        for (int e = 0; e < n; e++) checks.due("swings", x.swings(e), y.swings(e));
        chance(1, 2);
        chance(3, 10);
    }

    private void lookAtParts() {
        checks.due("apart()", x.apart(), y.apart());
        checks.due("star(0)", x.star(0), y.star(0));
        checks.due("star(1)", x.star(1), y.star(1));
        for (int part = 0; part <= Lists.all(n); part++) checks.due("seen", x.seen(part), y.seen(part));
        checks.due("dimension(0)", x.dimension(0), y.dimension(0));
        checks.due("dimension(1)", x.dimension(1), y.dimension(1));
        for (int c = 2; c <= 4; c++) checks.due("colourings", x.colourings(c), y.colourings(c));
        checks.due("colouring()", x.colouring(), y.colouring());
        checks.due("ears()", x.ears(), y.ears());
        checks.due("twoByTwo()", x.twoByTwo(), y.twoByTwo());
        checks.same("each lot that meets has a common element", x.twoByTwo() == MeetSets.NONE, y.lotsThatMeetHaveCommon());
    }

    private void lookAtGames() {
        for (int begins = 0; begins <= 1; begins++) {
            for (int what = 0; what <= 1; what++) {
                checks.due("game(" + begins + ", " + what + ")", x.game(begins, what), y.game(begins, what));
            }
        }
        checks.due("questions(0)", x.questions(0), y.questions(0));
        checks.due("questions(1)", x.questions(1), y.questions(1));
    }

    private void lookAtShares() {
        checks.due("shares()", x.shares(), y.shares());
        checks.fraction("shares()", x, y.part(0), y.part(1));
    }

    private void chance(int a, int b) {
        checks.due("chance", x.chance(a, b), y.chance(a, b));
        checks.fraction("chance(" + a + ", " + b + ")", x, y.part(0), y.part(1));
    }

    private void lookAtWitness(int[] sets, int[] others) {
        start(sets);
        for (int t : others) checks.due("other", x.other(t), y.other(t));
        checks.due("witness() with others " + Arrays.toString(others), x.witness(), y.witness());
    }

    private void lookAtCosts(int[] sets, int... costs) {
        start(sets);
        for (int e = 0; e < n; e++) checks.due("cost", x.cost(e, costs[e]), y.cost(e, costs[e]));
        checks.due("best(1)", x.best(1), y.best(1));
        checks.due("best(0)", x.best(0), y.best(0));
        lookAtShares();
    }
}
