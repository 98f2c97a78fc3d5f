import java.util.Arrays;

/** What a call answers is told by what the object holds now: nothing of an earlier list is left in it. */
public final class ChangesTest {
    /** Lists of a ground of ten, several of them with as many SETS as another. */
    private static final int[][] LISTS = {
        Lists.NO_SETS, {1}, {512}, {1023}, {1, 2}, {1, 513}, {3, 5}, {1023, 1},
        Lists.TRIANGLE, {768, 640, 384}, {7, 56, 448}, {1, 3, 7},
        Lists.FIVE_PAIRS, Lists.ring(5), Lists.OF_FORTY_MEETERS, Lists.OF_FORTY_ONE_MEETERS,
        Lists.FANO, Lists.ring(7), Lists.ring(10), Lists.TEN_SINGLES,
        {1, 2, 3, 4, 5, 6, 7, 8, 9, 10, 11, 12}, {3, 2, 1, 7, 11, 19, 35, 67, 131, 259, 515, 15},
        Lists.PETERSEN, Lists.PETERSEN_AND_ALL};

    public static void main(String[] args) {
        Checks.runAll(ChangesTest.class);
    }

    static void afterDropsAndSets(Checks c) {
        for (int[] before : LISTS) {
            for (int[] after : LISTS) {
                MeetSets x = Lists.of(10, before);
                answers(x);
                for (int i = 0; i < before.length; i++) x.drop();
                for (int s : after) x.set(s);
                same(c, before, after, x);
            }
        }
    }

    static void afterAnotherGround(Checks c) {
        for (int[] before : LISTS) {
            for (int[] after : LISTS) {
                MeetSets x = Lists.of(10, before);
                answers(x);
                x.ground(1);
                x.set(1);
                answers(x);
                x.ground(10);
                for (int s : after) x.set(s);
                same(c, before, after, x);
            }
        }
    }

    static void afterOtherCosts(Checks c) {
        for (int[] list : LISTS) {
            MeetSets x = Lists.of(10, list);
            MeetSets y = Lists.of(10, list);
            answers(x);
            for (int e = 0; e < 10; e++) {
                x.cost(e, 7 * e % 21);
                y.cost(e, 7 * e % 21);
            }
            c.same("a list of " + list.length, answers(x), answers(y));
        }
    }

    static void afterOneSetMoreOrLess(Checks c) {
        for (int[] list : LISTS) {
            MeetSets x = new MeetSets();
            x.ground(10);
            for (int many = 0; many < list.length; many++) {
                x.set(list[many]);
                MeetSets y = Lists.of(10, Arrays.copyOf(list, many + 1));
                c.same("the first " + (many + 1) + " of " + list.length, answers(x), answers(y));
                // No object is used beyond its 512 calls.
                if (many % 8 == 7) x = y;
            }
        }
    }

    private static void same(Checks c, int[] before, int[] after, MeetSets x) {
        c.same("a list of " + after.length + " after one of " + before.length, answers(x), answers(Lists.of(10, after)));
    }

    /** What all calls that look answer, and what shares and chance make of the fraction: 36 calls. */
    private static String answers(MeetSets x) {
        StringBuilder row = new StringBuilder();
        for (int what = 0; what <= 1; what++) {
            add(row, x.best(what), x.star(what), x.dimension(what), x.questions(what));
            add(row, x.game(0, what), x.game(1, what), x.meeter(what), x.swings(what * 9 % x.count(0)));
        }
        add(row, x.count(1), x.count(2), x.meeters(), x.apart(), x.colouring(), x.ears(), x.twoByTwo());
        add(row, x.seen(1), x.colourings(2), x.colourings(3), x.witness());
        add(row, x.shares(), x.part(0), x.part(1));
        add(row, x.chance(3, 7), x.part(0), x.part(1), x.digest());
        return row.toString();
    }

    private static void add(StringBuilder row, long... answers) {
        for (long answer : answers) row.append(answer).append(' ');
    }
}
