/** Promise 10, otherless: THE OTHER LIST is empty: how many. */
public final class Promise10OtherlessTest {
    public static void main(String[] args) {
        Checks.runAll(Promise10OtherlessTest.class);
    }

    static void ofAnEmptyOneIsZero(Checks c) {
        for (Held held : new Held[] {Held.NEW, Held.ONE_EMPTY, Held.TEN_EMPTY, Held.LIST_FULL}) {
            held.stays(c, "otherless()", MeetSets::otherless, 0);
        }
    }

    static void howManyThereWereIsTold(Checks c) {
        for (int many = 0; many <= 40; many++) {
            MeetSets x = Lists.of(6);
            for (int t = 0; t < many; t++) x.other(t);
            c.due("otherless() of " + many, x.otherless(), many);
            c.due("count(2)", x.count(2), 0);
            c.due("otherless() again", x.otherless(), 0);
        }
    }

    static void ofAFullOneOnlyTheListStays(Checks c) {
        MeetSets x = Held.TEN_FULL.make();
        c.due("otherless()", x.otherless(), 40);
        Held.LIST_FULL.look(c, "after otherless()", x);
        MeetSets y = Held.OTHER_FULL.make();
        c.due("otherless()", y.otherless(), 40);
        Held.TEN_EMPTY.look(c, "after otherless()", y);
    }

    static void onAGroundOfOne(Checks c) {
        MeetSets x = Held.ONE_ALL.make();
        c.due("otherless()", x.otherless(), 2);
        c.due("the list stays", x.drop(), 1);
    }

    static void nothingOfItIsLeft(Checks c) {
        MeetSets x = Held.OTHER_FULL.make();
        x.otherless();
        c.due("witness() of two empty lists", x.witness(), 0);
        c.due("what was there may come again", x.other(26), 1);
    }
}
