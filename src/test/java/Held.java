import java.util.function.IntUnaryOperator;

/**
 * An object of which all that it holds is known: it can be made again and again, and looked through
 * to the last cost. The look uses it up, so each call that is tried gets an object of its own.
 */
final class Held {
    interface Call {
        long on(MeetSets x);
    }

    interface CallWith {
        long on(MeetSets x, int v);
    }

    private static final int[] COSTS = {20, 0, 1, 7, 3, 19, 0, 2, 11, 20};
    private static final int[] COSTS_AT_FIRST = {1, 1, 1, 1, 1, 1, 1, 1, 1, 1};
    /** The chance that one of ten is there, each with odds 1 by 10: both parts are beyond an int. */
    private static final long ABOVE = 6513215599L;
    private static final long BELOW = 10000000000L;

    static final Held NEW = new Held("a new object", true, 8, Lists.NO_SETS, Lists.NO_SETS);
    static final Held ONE_EMPTY = of("a ground of 1", 1, Lists.NO_SETS, Lists.NO_SETS);
    static final Held ONE_ALL = of("a ground of 1 with all sets", 1, new int[] {1}, new int[] {0, 1});
    static final Held TRIANGLE = of("a triangle", 3, Lists.TRIANGLE, new int[] {3, 5, 6});
    static final Held TEN_EMPTY = of("a ground of 10", 10, Lists.NO_SETS, Lists.NO_SETS);
    static final Held TEN_FULL = of("both lists full", 10, Lists.PETERSEN_AND_ALL, Lists.FORTY);
    static final Held LIST_FULL = of("the list full", 10, Lists.PETERSEN_AND_ALL, Lists.NO_SETS);
    static final Held OTHER_FULL = of("the other list full", 10, Lists.NO_SETS, Lists.FORTY);
    static final Held[] ALL = {NEW, ONE_EMPTY, ONE_ALL, TRIANGLE, TEN_EMPTY, TEN_FULL, LIST_FULL, OTHER_FULL};
    static final Held[] WITH_EMPTY_LIST = {NEW, ONE_EMPTY, TEN_EMPTY, OTHER_FULL};

    final String name;
    final int n;
    final int[] sets;
    final int[] others;
    private final boolean untouched;

    private Held(String name, boolean untouched, int n, int[] sets, int[] others) {
        this.name = name;
        this.untouched = untouched;
        this.n = n;
        this.sets = sets;
        this.others = others;
    }

    static Held of(String name, int n, int[] sets, int[] others) {
        return new Held(name, false, n, sets, others);
    }

    MeetSets make() {
        MeetSets x = new MeetSets();
        if (!untouched) {
            x.ground(10);
            for (int e = 0; e < 10; e++) x.cost(e, COSTS[e]);
            x.set(1023);
            x.chance(1, 10);
            x.ground(n);
        }
        for (int s : sets) x.set(s);
        for (int t : others) x.other(t);
        return x;
    }

    /** How many calls make() makes. */
    int callsToMake() {
        return (untouched ? 0 : 14) + sets.length + others.length;
    }

    /** The answer is the one due, and all that the object holds is as it was. */
    void stays(Checks checks, String call, Call tried, long want) {
        MeetSets x = make();
        checks.due(name + ": " + call, tried.on(x), want);
        look(checks, name + ", after " + call, x);
    }

    void look(Checks checks, String what, MeetSets x) {
        checks.due(what + ": count(0)", x.count(0), n);
        checks.due(what + ": count(1)", x.count(1), sets.length);
        checks.due(what + ": count(2)", x.count(2), others.length);
        checks.fraction(what, x, untouched ? 0 : ABOVE, untouched ? 1 : BELOW);
        checks.due(what + ": digest()", x.digest(), make().digest());
        lookAtCosts(checks, what, x, n);
        for (int t : others) checks.due(what + ": other(" + t + ") is in it", x.other(t), MeetSets.BAD);
        for (int i = sets.length - 1; i >= 0; i--) checks.due(what + ": drop()", x.drop(), sets[i]);
        checks.due(what + ": drop() of no more", x.drop(), MeetSets.NO);
        x.ground(10);
        lookAtCosts(checks, what + ", beyond its ground", x, 10);
    }

    private void lookAtCosts(Checks checks, String what, MeetSets x, int many) {
        int[] costs = untouched ? COSTS_AT_FIRST : COSTS;
        for (int e = 0; e < many; e++) checks.due(what + ": COST of " + e, x.cost(e, costs[e]), costs[e]);
    }

    static void staysInAll(Checks checks, String call, Call tried, long want) {
        for (Held held : ALL) held.stays(checks, call, tried, want);
    }

    /** The first number below the edge, and others as far as the least int, are refused everywhere. */
    static void refusedBelow(Checks checks, String call, IntUnaryOperator firstOfGround, CallWith tried, long want) {
        int[] far = {-1, -2, -3, -8, -31, -32, -33, -1023, -1024, -65536, Integer.MIN_VALUE + 1, Integer.MIN_VALUE};
        for (Held held : ALL) {
            int first = firstOfGround.applyAsInt(held.n);
            held.staysWith(checks, call, first, tried, want);
            for (int v : far) {
                if (v < first) held.staysWith(checks, call, v, tried, want);
            }
        }
    }

    /** The first number above the edge, and others as far as the greatest int, are refused everywhere. */
    static void refusedAbove(Checks checks, String call, IntUnaryOperator firstOfGround, CallWith tried, long want) {
        int[] far = {3, 11, 31, 32, 33, 64, 256, 1025, 2047, 65536, 65537, 1 << 30, Integer.MAX_VALUE - 1, Integer.MAX_VALUE};
        for (Held held : ALL) {
            int first = firstOfGround.applyAsInt(held.n);
            held.staysWith(checks, call, first, tried, want);
            for (int v : far) {
                if (v > first) held.staysWith(checks, call, v, tried, want);
            }
        }
    }

    private void staysWith(Checks checks, String call, int v, CallWith tried, long want) {
        stays(checks, call + " of " + v, x -> tried.on(x, v), want);
    }
}
