/** Promise 3, set: A SET of THE LIST: its number. BAD: none, it is in THE LIST, too; FULL: 16. */
public final class Promise03SetTest {
    public static void main(String[] args) {
        Checks.runAll(Promise03SetTest.class);
    }

    static void itsNumberIsFromZeroToFifteen(Checks c) {
        MeetSets x = Lists.of(5);
        for (int s = 1; s <= 16; s++) c.due("set(" + s + ")", x.set(s), s - 1);
        c.due("count(1)", x.count(1), 16);
    }

    static void theLeastAndTheGreatestSetOfEachGround(Checks c) {
        for (int n = 1; n <= 10; n++) {
            MeetSets least = Lists.of(n);
            c.due("set(1) of " + n, least.set(1), 0);
            c.due("it is there", least.drop(), 1);
            MeetSets greatest = Lists.of(n);
            c.due("set(" + Lists.all(n) + ") of " + n, greatest.set(Lists.all(n)), 0);
            c.due("it is there", greatest.drop(), Lists.all(n));
        }
    }

    static void noneIsBad(Checks c) {
        Held.staysInAll(c, "set(0)", x -> x.set(0), MeetSets.BAD);
    }

    static void belowNoneIsBad(Checks c) {
        Held.refusedBelow(c, "set", n -> -1, MeetSets::set, MeetSets.BAD);
        Held.refusedBelow(c, "set, its low bits as told", n -> -1 << n | 1, MeetSets::set, MeetSets.BAD);
    }

    static void elementsBeyondTheGroundAreBad(Checks c) {
        Held.refusedAbove(c, "set", n -> 1 << n, MeetSets::set, MeetSets.BAD);
        Held.refusedAbove(c, "set, its low bits as told", n -> 1 << n | 1, MeetSets::set, MeetSets.BAD);
    }

    static void whatIsInTheListIsBad(Checks c) {
        for (Held held : new Held[] {Held.ONE_ALL, Held.TRIANGLE, Held.LIST_FULL, Held.TEN_FULL}) {
            for (int s : held.sets) held.stays(c, "set(" + s + ")", x -> x.set(s), MeetSets.BAD);
        }
    }

    static void aSeventeenthIsFull(Checks c) {
        Held.LIST_FULL.stays(c, "set(1)", x -> x.set(1), MeetSets.FULL);
        Held.LIST_FULL.stays(c, "set(1022)", x -> x.set(1022), MeetSets.FULL);
        Held.TEN_FULL.stays(c, "set(1)", x -> x.set(1), MeetSets.FULL);
        Held five = Held.of("one to sixteen of five", 5, fromOneTo(16), Lists.NO_SETS);
        for (int s = 17; s <= 31; s++) {
            int seventeenth = s;
            five.stays(c, "set(" + s + ")", x -> x.set(seventeenth), MeetSets.FULL);
        }
    }

    static void aSixteenthIsNotFull(Checks c) {
        MeetSets x = Lists.of(10, fromOneTo(15));
        c.due("the sixteenth", x.set(1023), 15);
        c.due("the seventeenth", x.set(1022), MeetSets.FULL);
    }

    static void badIsToldBeforeFull(Checks c) {
        for (Held held : new Held[] {Held.LIST_FULL, Held.TEN_FULL}) {
            for (int v : new int[] {0, -1, 1024, 3, 1023, Integer.MIN_VALUE, Integer.MAX_VALUE}) {
                held.stays(c, "set(" + v + ")", x -> x.set(v), MeetSets.BAD);
            }
        }
    }

    /** There are only 15 unlike sets of four elements that are not none: the list is never full. */
    static void allSetsOfFourElementsDoNotFillIt(Checks c) {
        Held four = Held.of("all sets of four", 4, fromOneTo(15), Lists.NO_SETS);
        for (int v = 0; v <= 16; v++) {
            int s = v;
            four.stays(c, "set(" + v + ")", x -> x.set(s), MeetSets.BAD);
        }
    }

    static void afterADropThereIsRoomAgain(Checks c) {
        MeetSets x = Held.TEN_FULL.make();
        x.drop();
        c.due("another sixteenth", x.set(1), 15);
        c.due("what was dropped", x.set(1023), MeetSets.FULL);
        x.drop();
        c.due("what was dropped comes again", x.set(1023), 15);
    }

    static void whatIsInTheOtherListMayBeSet(Checks c) {
        MeetSets x = Held.OTHER_FULL.make();
        c.due("set(26)", x.set(26), 0);
        c.due("count(2)", x.count(2), 40);
    }

    private static int[] fromOneTo(int last) {
        int[] row = new int[last];
        for (int i = 0; i < last; i++) row[i] = i + 1;
        return row;
    }
}
