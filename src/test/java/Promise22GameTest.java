/**
 * Promise 22, game: THE GAME, if MAKER (0), BREAKER (1) begins: WHO wins (what = 0: 0 MAKER, 1 BREAKER),
 * the MOVE (1; NONE: he who begins loses). BAD.
 */
public final class Promise22GameTest {
    public static void main(String[] args) {
        Checks.runAll(Promise22GameTest.class);
    }

    /** Who wins and by what move, if MAKER begins; then the same, if BREAKER does. */
    private static void is(Checks c, String what, MeetSets x, int who, int move, int otherWho, int otherMove) {
        c.due(what + ": game(0, 0)", x.game(0, 0), who);
        c.due(what + ": game(0, 1)", x.game(0, 1), move);
        c.due(what + ": game(1, 0)", x.game(1, 0), otherWho);
        c.due(what + ": game(1, 1)", x.game(1, 1), otherMove);
    }

    static void ofAnEmptyListBreakerWins(Checks c) {
        for (int n = 1; n <= 10; n++) is(c, "a ground of " + n, Lists.of(n), 1, MeetSets.NONE, 1, 0);
        for (Held held : Held.WITH_EMPTY_LIST) {
            held.stays(c, "game(0, 0)", x -> x.game(0, 0), 1);
            held.stays(c, "game(0, 1)", x -> x.game(0, 1), MeetSets.NONE);
            held.stays(c, "game(1, 0)", x -> x.game(1, 0), 1);
            held.stays(c, "game(1, 1)", x -> x.game(1, 1), 0);
        }
    }

    static void onAGroundOfOneHeWhoBeginsWins(Checks c) {
        is(c, "the single", Held.ONE_ALL.make(), 0, 0, 1, 0);
        Held.ONE_ALL.stays(c, "game(1, 0)", x -> x.game(1, 0), 1);
    }

    static void onAGroundOfTwo(Checks c) {
        is(c, "the pair", Lists.of(2, 3), 1, MeetSets.NONE, 1, 0);
        is(c, "both singles", Lists.of(2, 1, 2), 0, 0, 0, MeetSets.NONE);
    }

    static void theMoveIsTheLeast(Checks c) {
        for (int e = 0; e < 10; e++) is(c, "the single " + e, Lists.of(10, 1 << e), 0, e, 1, e);
        is(c, "two pairs with 1 in common", Lists.of(4, 6, 10), 0, 1, 1, 1);
        is(c, "a triangle", Lists.of(3, Lists.TRIANGLE), 0, 0, 1, 0);
        is(c, "fano", Lists.of(7, Lists.FANO), 0, 0, 1, 0);
    }

    static void heWhoBeginsLoses(Checks c) {
        is(c, "MAKER, of five pairs", Lists.of(10, Lists.FIVE_PAIRS), 1, MeetSets.NONE, 1, 0);
        is(c, "MAKER, of all ten", Lists.of(10, 1023), 1, MeetSets.NONE, 1, 0);
        is(c, "BREAKER, of two singles", Lists.of(10, 4, 512), 0, 0, 0, MeetSets.NONE);
    }

    /** Lists whose outcome changes if what is kept of one state were taken for another's. */
    static void whereManyStatesAreGoneThrough(Checks c) {
        is(c, "eight of ten", Lists.of(10, 258, 560, 25, 448, 324, 584, 112, 386), 0, 6, 1, 6);
        is(c, "four of ten", Lists.of(10, 104, 84, 288, 768), 0, 8, 1, 5);
        is(c, "eleven of nine", Lists.of(9, 153, 290, 168, 296, 97, 142, 448, 112, 389, 176, 134), 0, 2, 1, 5);
        is(c, "fourteen of eight", Lists.of(8, 75, 176, 56, 180, 209, 106, 98, 73, 100, 84, 196, 193, 134, 43), 0, 4, 1, 5);
    }

    static void ofAFullList(Checks c) {
        is(c, "petersen and all", Held.TEN_FULL.make(), 0, 0, 0, MeetSets.NONE);
        is(c, "one to sixteen", Lists.oneToSixteen(5), 0, 0, 0, MeetSets.NONE);
        Held.TEN_FULL.stays(c, "game(1, 1)", x -> x.game(1, 1), MeetSets.NONE);
    }

    static void whoBeginsBelowZeroIsBad(Checks c) {
        for (int what = 0; what <= 1; what++) {
            int asked = what;
            Held.refusedBelow(c, "game(.., " + what + ")", n -> -1, (x, v) -> x.game(v, asked), MeetSets.BAD);
        }
    }

    static void whoBeginsAboveOneIsBad(Checks c) {
        for (int what = 0; what <= 1; what++) {
            int asked = what;
            Held.refusedAbove(c, "game(.., " + what + ")", n -> 2, (x, v) -> x.game(v, asked), MeetSets.BAD);
        }
    }

    static void whatBelowZeroIsBad(Checks c) {
        for (int begins = 0; begins <= 1; begins++) {
            int first = begins;
            Held.refusedBelow(c, "game(" + begins + ", ..)", n -> -1, (x, v) -> x.game(first, v), MeetSets.BAD);
        }
    }

    static void whatAboveOneIsBad(Checks c) {
        for (int begins = 0; begins <= 1; begins++) {
            int first = begins;
            Held.refusedAbove(c, "game(" + begins + ", ..)", n -> 2, (x, v) -> x.game(first, v), MeetSets.BAD);
        }
    }

    static void bothWrongIsBad(Checks c) {
        int[] wrong = {-1, 2, Integer.MIN_VALUE, Integer.MAX_VALUE};
        for (int begins : wrong) {
            for (int what : wrong) {
                Held.staysInAll(c, "game(" + begins + ", " + what + ")", x -> x.game(begins, what), MeetSets.BAD);
            }
        }
    }
}
