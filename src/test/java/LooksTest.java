/** Calls that only look change nothing, whatever the object holds. */
public final class LooksTest {
    public static void main(String[] args) {
        Checks.runAll(LooksTest.class);
    }

    static void eachLookLeavesAllAsItWas(Checks c) {
        for (Held held : Held.ALL) {
            MeetSets x = held.make();
            lookAtAll(x, held.n);
            held.look(c, held.name + ", after all looks", x);
        }
    }

    static void aSecondLookSeesTheSame(Checks c) {
        for (Held held : Held.ALL) {
            MeetSets x = held.make();
            String first = lookAtAll(x, held.n);
            c.same(held.name, lookAtAll(x, held.n), first);
        }
    }

    private static String lookAtAll(MeetSets x, int n) {
        StringBuilder row = new StringBuilder();
        for (int what = 0; what <= 2; what++) add(row, x.count(what));
        for (int what = 0; what <= 1; what++) {
            add(row, x.part(what), x.best(what), x.star(what), x.dimension(what), x.questions(what));
            add(row, x.game(0, what), x.game(1, what));
        }
        for (int i = 0; i < 17; i++) add(row, x.meeter(i));
        for (int c = 2; c <= 4; c++) add(row, x.colourings(c));
        for (int e = 0; e < n; e++) add(row, x.swings(e), x.seen(1 << e));
        add(row, x.meeters(), x.witness(), x.apart(), x.colouring(), x.ears(), x.twoByTwo(), x.digest());
        return row.toString();
    }

    private static void add(StringBuilder row, long... answers) {
        for (long answer : answers) row.append(answer).append(' ');
    }
}
