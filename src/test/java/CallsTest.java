/** The document's first words: an object is used for at most 512 calls after it has been made. */
public final class CallsTest {
    private static final int MOST_CALLS = 512;
    private static final int KINDS = 27;
    private static final int SHARES = 10;
    private static final int CHANCE = 20;

    public static void main(String[] args) {
        Checks.runAll(CallsTest.class);
    }

    /** Each call as the 512th, in each state: as on an object that has had no other calls but those that made it. */
    static void theLastOneIsAnsweredAsAnEarlierOne(Checks c) {
        for (Held held : Held.ALL) {
            for (int kind = 0; kind < KINDS; kind++) {
                MeetSets x = held.make();
                look(x, MOST_CALLS - held.callsToMake() - callsOf(kind));
                c.due(held.name + ": the 512th call, kind " + kind, called(kind, x), called(kind, held.make()));
            }
        }
    }

    static void fiveHundredChangesLeaveNoTrace(Checks c) {
        MeetSets x = new MeetSets();
        x.ground(3);
        for (int i = 0; i < 63; i++) {
            for (int s : Lists.TRIANGLE) c.due("set(" + s + ")", x.set(s), s == 3 ? 0 : s == 6 ? 1 : 2);
            c.due("take()", x.take(), 3);
            c.due("meeters()", x.meeters(), 3);
            c.due("drop()", x.drop(), 5);
            c.due("drop()", x.drop(), 6);
            c.due("drop()", x.drop(), 3);
        }
        c.due("meeters() after 505 calls", x.meeters(), 1);
        c.due("otherless()", x.otherless(), 3);
        c.due("digest()", x.digest(), Promise28DigestTest.mixed(3, 0, 0, 1, 1, 1, 1, 0, 0, 0, 0, 0, 1));
    }

    /** What they answer is free, but LANGUAGE.md lets no call throw. */
    static void laterOnesEndTooAndThrowNothing(Checks c) {
        MeetSets x = Held.TEN_FULL.make();
        for (int i = 0; i < 3 * MOST_CALLS; i++) called(i % KINDS, x);
        c.due("it still answers", x.count(0), 10);
    }

    private static void look(MeetSets x, int times) {
        for (int i = 0; i < times; i++) {
            if (i % 3 == 0) x.dimension(1);
            if (i % 3 == 1) x.seen(i % 2);
            if (i % 3 == 2) x.meeter(i % 7);
        }
    }

    /** shares and chance are told by part. */
    private static int callsOf(int kind) {
        return kind == SHARES || kind == CHANCE ? 2 : 1;
    }

    private static long called(int kind, MeetSets x) {
        switch (kind) {
            case 0: return x.set(1);
            case 1: return x.drop();
            case 2: return x.cost(0, 1);
            case 3: return x.meeters();
            case 4: return x.meeter(0);
            case 5: return x.best(1);
            case 6: return x.other(1);
            case 7: return x.otherless();
            case 8: return x.take();
            case 9: return x.witness();
            case SHARES: x.shares(); return x.part(0);
            case 11: return x.apart();
            case 12: return x.star(0);
            case 13: return x.seen(1);
            case 14: return x.dimension(1);
            case 15: return x.colourings(3);
            case 16: return x.colouring();
            case 17: return x.ears();
            case 18: return x.twoByTwo();
            case 19: return x.game(1, 1);
            case CHANCE: x.chance(1, 2); return x.part(0);
            case 21: return x.part(1);
            case 22: return x.swings(0);
            case 23: return x.questions(1);
            case 24: return x.count(2);
            case 25: return x.digest();
            default: return x.ground(10);
        }
    }
}
