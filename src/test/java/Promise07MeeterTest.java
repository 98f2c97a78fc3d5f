/** Promise 7, meeter: The i-th. NONE: not so many. BAD. */
public final class Promise07MeeterTest {
    public static void main(String[] args) {
        Checks.runAll(Promise07MeeterTest.class);
    }

    static void theyAreInOrderAsNumbers(Checks c) {
        MeetSets x = Lists.of(7, Lists.FANO);
        int[] inOrder = {7, 25, 42, 52, 76, 82, 97};
        for (int i = 0; i < 7; i++) c.due("fano's meeter(" + i + ")", x.meeter(i), inOrder[i]);
    }

    static void theFirstAndTheLast(Checks c) {
        MeetSets pairs = Lists.of(10, Lists.FIVE_PAIRS);
        c.due("the first of 32", pairs.meeter(0), 341);
        c.due("the last of 32", pairs.meeter(31), 682);
        c.due("one more", pairs.meeter(32), MeetSets.NONE);
        for (int n = 1; n <= 10; n++) {
            MeetSets x = Lists.of(n, Lists.all(n));
            c.due("the first single of " + n, x.meeter(0), 1);
            c.due("the last single of " + n, x.meeter(n - 1), 1 << (n - 1));
            c.due("one more than " + n, x.meeter(n), MeetSets.NONE);
        }
    }

    static void beyondFortyToo(Checks c) {
        MeetSets x = Lists.of(10, Lists.OF_FORTY_ONE_MEETERS);
        int before = -1;
        for (int i = 0; i < 41; i++) {
            int found = x.meeter(i);
            c.same("meeter(" + i + ") is greater than the one before", found > before, true);
            before = found;
        }
        c.due("meeter(41)", x.meeter(41), MeetSets.NONE);
    }

    static void ofAnEmptyListNoneAtAll(Checks c) {
        for (Held held : Held.WITH_EMPTY_LIST) {
            held.stays(c, "meeter(0)", x -> x.meeter(0), 0);
            held.stays(c, "meeter(1)", x -> x.meeter(1), MeetSets.NONE);
        }
    }

    static void ofAFullList(Checks c) {
        MeetSets x = Lists.oneToSixteen(5);
        c.due("all five", x.meeter(0), 31);
        c.due("no more", x.meeter(1), MeetSets.NONE);
        Held.TEN_FULL.stays(c, "meeter(14)", y -> y.meeter(14) >= 0 ? 1 : 0, 1);
        Held.TEN_FULL.stays(c, "meeter(15)", y -> y.meeter(15), MeetSets.NONE);
    }

    static void notSoManyIsNoneAsFarAsTheGreatestInt(Checks c) {
        Held.refusedAbove(c, "meeter", n -> 15, MeetSets::meeter, MeetSets.NONE);
        Held.ONE_ALL.stays(c, "meeter(1)", x -> x.meeter(1), MeetSets.NONE);
        Held.TRIANGLE.stays(c, "meeter(3)", x -> x.meeter(3), MeetSets.NONE);
    }

    static void belowZeroIsBad(Checks c) {
        Held.refusedBelow(c, "meeter", n -> -1, MeetSets::meeter, MeetSets.BAD);
    }
}
