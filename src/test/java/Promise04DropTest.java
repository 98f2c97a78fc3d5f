/** Promise 4, drop: The last SET goes: what it was. NO: there is none. */
public final class Promise04DropTest {
    public static void main(String[] args) {
        Checks.runAll(Promise04DropTest.class);
    }

    static void theLastGoes(Checks c) {
        MeetSets x = Lists.of(3, Lists.TRIANGLE);
        c.due("drop()", x.drop(), 5);
        c.due("count(1)", x.count(1), 2);
        c.due("meeters() of a path", x.meeters(), 2);
        c.due("drop()", x.drop(), 6);
        c.due("its number is free", x.set(5), 1);
        c.due("drop()", x.drop(), 5);
        c.due("drop()", x.drop(), 3);
        c.due("meeters() of an empty list", x.meeters(), 1);
        c.due("what was dropped may come again", x.set(3), 0);
    }

    static void aFullListGoesFromTheLastToTheFirst(Checks c) {
        MeetSets x = Held.TEN_FULL.make();
        for (int i = 15; i >= 0; i--) {
            c.due("drop() of SET " + i, x.drop(), Lists.PETERSEN_AND_ALL[i]);
            c.due("count(1)", x.count(1), i);
        }
        c.due("drop() of none", x.drop(), MeetSets.NO);
        c.due("the other list stays", x.count(2), 40);
    }

    static void ofAnEmptyListIsNo(Checks c) {
        for (Held held : Held.WITH_EMPTY_LIST) held.stays(c, "drop()", MeetSets::drop, MeetSets.NO);
    }

    static void onAGroundOfOne(Checks c) {
        MeetSets x = Lists.of(1, 1);
        c.due("drop()", x.drop(), 1);
        c.due("drop() again", x.drop(), MeetSets.NO);
        c.due("and again", x.drop(), MeetSets.NO);
        c.due("set(1)", x.set(1), 0);
    }

    static void allElseStays(Checks c) {
        Held more = Held.of("a triangle and its whole", 3, Lists.withLast(Lists.TRIANGLE, 7), Held.TRIANGLE.others);
        MeetSets x = more.make();
        c.due("drop()", x.drop(), 7);
        Held.TRIANGLE.look(c, "after drop()", x);
    }
}
