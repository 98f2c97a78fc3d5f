/** Promise 23, chance: CHANCE is THE FRACTION: 1. BAD. */
public final class Promise23ChanceTest {
    public static void main(String[] args) {
        Checks.runAll(Promise23ChanceTest.class);
    }

    private static void is(Checks c, String what, MeetSets x, int a, int b, long above, long below) {
        String call = what + ": chance(" + a + ", " + b + ")";
        c.due(call, x.chance(a, b), 1);
        c.fraction(call, x, above, below);
    }

    private static int commonDivisor(int a, int b) {
        return b == 0 ? a : commonDivisor(b, a % b);
    }

    static void allOddsAsToldInLowestTerms(Checks c) {
        for (int b = 1; b <= 10; b++) {
            for (int a = 0; a <= b; a++) {
                int common = commonDivisor(a, b);
                is(c, "a ground of one", Lists.of(1, 1), a, b, a / common, b / common);
            }
        }
    }

    static void ofAnEmptyListItIsSure(Checks c) {
        for (Held held : Held.WITH_EMPTY_LIST) {
            is(c, held.name, held.make(), 0, 1, 1, 1);
            is(c, held.name, held.make(), 0, 10, 1, 1);
            is(c, held.name, held.make(), 3, 7, 1, 1);
            is(c, held.name, held.make(), 10, 10, 1, 1);
        }
    }

    static void oddsOfZeroAndOfOne(Checks c) {
        for (Held held : new Held[] {Held.ONE_ALL, Held.TRIANGLE, Held.LIST_FULL, Held.TEN_FULL}) {
            for (int b = 1; b <= 10; b++) {
                is(c, held.name, held.make(), 0, b, 0, 1);
                is(c, held.name, held.make(), b, b, 1, 1);
            }
        }
    }

    static void lowestTerms(Checks c) {
        is(c, "a triangle", Lists.of(3, Lists.TRIANGLE), 1, 3, 7, 27);
        is(c, "a triangle", Lists.of(3, Lists.TRIANGLE), 3, 9, 7, 27);
        is(c, "fano", Lists.of(7, Lists.FANO), 1, 2, 1, 2);
        is(c, "ten singles", Lists.of(10, Lists.TEN_SINGLES), 5, 10, 1, 1024);
        is(c, "five pairs", Lists.of(10, Lists.FIVE_PAIRS), 1, 2, 243, 1024);
    }

    static void theGreatestParts(Checks c) {
        is(c, "all ten", Lists.of(10, 1023), 1, 10, 6513215599L, 10000000000L);
        is(c, "ten singles", Lists.of(10, Lists.TEN_SINGLES), 1, 10, 1, 10000000000L);
        is(c, "ten singles", Lists.of(10, Lists.TEN_SINGLES), 9, 10, 3486784401L, 10000000000L);
        is(c, "all ten", Lists.of(10, 1023), 9, 10, 9999999999L, 10000000000L);
    }

    static void ofAFullList(Checks c) {
        is(c, "petersen has 76 covers", Held.TEN_FULL.make(), 1, 2, 19, 256);
        is(c, "one to sixteen: all five must be there", Lists.oneToSixteen(5), 1, 10, 1, 100000);
        is(c, "what lies in no SET does not matter", Lists.oneToSixteen(10), 1, 10, 1, 100000);
    }

    static void aBelowZeroIsBad(Checks c) {
        Held.refusedBelow(c, "chance(.., 10)", n -> -1, (x, v) -> x.chance(v, 10), MeetSets.BAD);
        Held.refusedBelow(c, "chance(.., 1)", n -> -1, (x, v) -> x.chance(v, 1), MeetSets.BAD);
    }

    static void aAboveBIsBad(Checks c) {
        for (int b = 1; b <= 10; b++) {
            int below = b;
            Held.refusedAbove(c, "chance(.., " + b + ")", n -> below + 1, (x, v) -> x.chance(v, below), MeetSets.BAD);
        }
    }

    static void bBelowOneIsBad(Checks c) {
        Held.refusedBelow(c, "chance(0, ..)", n -> 0, (x, v) -> x.chance(0, v), MeetSets.BAD);
        Held.refusedBelow(c, "chance(b, b)", n -> 0, (x, v) -> x.chance(v, v), MeetSets.BAD);
    }

    static void bAboveTenIsBad(Checks c) {
        Held.refusedAbove(c, "chance(0, ..)", n -> 11, (x, v) -> x.chance(0, v), MeetSets.BAD);
        Held.refusedAbove(c, "chance(1, ..)", n -> 11, (x, v) -> x.chance(1, v), MeetSets.BAD);
        Held.refusedAbove(c, "chance(b, b)", n -> 11, (x, v) -> x.chance(v, v), MeetSets.BAD);
    }

    static void bothWrongIsBad(Checks c) {
        int[] wrong = {-1, 11, Integer.MIN_VALUE, Integer.MAX_VALUE};
        for (int a : wrong) {
            for (int b : wrong) {
                Held.staysInAll(c, "chance(" + a + ", " + b + ")", x -> x.chance(a, b), MeetSets.BAD);
            }
        }
    }

    static void onlyTheFractionChanges(Checks c) {
        for (Held held : Held.ALL) {
            if (held == Held.NEW) continue;
            MeetSets x = held.make();
            x.chance(1, 2);
            Held ten = Held.of("ten alone", 10, new int[] {1023}, Lists.NO_SETS);
            c.due(held.name + ": count(1)", x.count(1), held.sets.length);
            c.due(held.name + ": count(2)", x.count(2), held.others.length);
            for (int t : held.others) c.due(held.name + ": other(" + t + ") is in it", x.other(t), MeetSets.BAD);
            for (int i = held.sets.length - 1; i >= 0; i--) c.due(held.name + ": drop()", x.drop(), held.sets[i]);
            x.ground(10);
            x.set(1023);
            x.chance(1, 10);
            ten.look(c, held.name + ", the costs after chance(1, 2)", x);
        }
    }
}
