import java.util.ArrayList;
import java.util.List;

/** What is refused changes nothing, and what only looks changes nothing; in states of many kinds. */
public final class RefusalsTest {
    private static final int[] FAR = {-1, Integer.MIN_VALUE, Integer.MAX_VALUE, 1 << 16, -1 << 10};

    private final Checks checks = new Checks();

    public static void main(String[] args) {
        new RefusalsTest().run();
    }

    private interface Call {
        long on(MeetSets x);
    }

    private void run() {
        for (int state = 0; state < STATES; state++) {
            checks.at("state " + state);
            wrongNumbers(state);
            looks(state);
        }
        fullLists();
        emptyLists();
        tooManyMeeters();
        checks.end();
    }

    private static final int STATES = 5;

    private static MeetSets stateOf(int which) {
        MeetSets x = new MeetSets();
        if (which == 1) x.ground(1);
        if (which >= 2) x.ground(which == 2 ? 3 : 10);
        if (which == 2) {
            for (int s : new int[] {3, 6, 5}) x.set(s);
            x.take();
            x.cost(1, 20);
            x.shares();
        }
        if (which >= 3) {
            for (int i = 0; i < 16; i++) x.set(1 + i * 61 % 1023);
            for (int i = 0; i < 40; i++) x.other(i * 25);
            for (int e = 0; e < 10; e++) x.cost(e, 2 * e);
            x.chance(3, 7);
        }
        if (which == 4) {
            x.drop();
            x.otherless();
        }
        return x;
    }

    /** All that can be seen of an object without changing it. */
    private static List<Long> view(MeetSets x) {
        List<Long> row = new ArrayList<>();
        row.add(x.digest());
        for (int what = 0; what <= 2; what++) row.add((long) x.count(what));
        for (int what = 0; what <= 1; what++) {
            row.add(x.part(what));
            row.add((long) x.best(what));
            row.add((long) x.star(what));
            row.add((long) x.dimension(what));
            row.add((long) x.game(0, what));
            row.add((long) x.game(1, what));
            row.add((long) x.questions(what));
        }
        for (int i = 0; i < 45; i++) row.add((long) x.meeter(i));
        for (int c = 2; c <= 4; c++) row.add((long) x.colourings(c));
        for (int e = 0; e < 10; e++) row.add((long) x.swings(e));
        row.add((long) x.seen(1));
        row.add((long) x.meeters());
        row.add((long) x.witness());
        row.add((long) x.apart());
        row.add((long) x.colouring());
        row.add((long) x.ears());
        row.add((long) x.twoByTwo());
        row.add(x.digest());
        return row;
    }

    private void refused(String what, MeetSets x, Call call, long want) {
        List<Long> before = view(x);
        checks.due(what, call.on(x), want);
        checks.same(what + ", what is there after it", view(x), before);
    }

    private void bad(int state, String name, Call call) {
        refused(name, stateOf(state), call, -2);
    }

    private void wrongNumbers(int state) {
        int n = stateOf(state).count(0);
        for (int v : FAR) {
            bad(state, "ground(" + v + ")", x -> x.ground(v));
            bad(state, "set(" + v + ")", x -> x.set(v));
            bad(state, "other(" + v + ")", x -> x.other(v));
            bad(state, "seen(" + v + ")", x -> x.seen(v));
            bad(state, "cost(" + v + ", 2)", x -> x.cost(v, 2));
            bad(state, "cost(0, " + v + ")", x -> x.cost(0, v));
            bad(state, "swings(" + v + ")", x -> x.swings(v));
            bad(state, "best(" + v + ")", x -> x.best(v));
            bad(state, "star(" + v + ")", x -> x.star(v));
            bad(state, "dimension(" + v + ")", x -> x.dimension(v));
            bad(state, "colourings(" + v + ")", x -> x.colourings(v));
            bad(state, "game(" + v + ", 0)", x -> x.game(v, 0));
            bad(state, "game(1, " + v + ")", x -> x.game(1, v));
            bad(state, "chance(" + v + ", 5)", x -> x.chance(v, 5));
            bad(state, "chance(0, " + v + ")", x -> x.chance(0, v));
            bad(state, "questions(" + v + ")", x -> x.questions(v));
            bad(state, "count(" + v + ")", x -> x.count(v));
            refused("part(" + v + ")", stateOf(state), x -> x.part(v), -1);
            if (v < 0) bad(state, "meeter(" + v + ")", x -> x.meeter(v));
        }
        bad(state, "ground(0)", x -> x.ground(0));
        bad(state, "ground(11)", x -> x.ground(11));
        bad(state, "set(0)", x -> x.set(0));
        bad(state, "set one beyond", x -> x.set(1 << n));
        bad(state, "other one beyond", x -> x.other(1 << n));
        bad(state, "seen one beyond", x -> x.seen(1 << n));
        bad(state, "cost one element beyond", x -> x.cost(n, 1));
        bad(state, "cost one beyond", x -> x.cost(0, 21));
        bad(state, "swings one beyond", x -> x.swings(n));
        bad(state, "best(2)", x -> x.best(2));
        bad(state, "star(2)", x -> x.star(2));
        bad(state, "dimension(2)", x -> x.dimension(2));
        bad(state, "colourings(1)", x -> x.colourings(1));
        bad(state, "colourings(5)", x -> x.colourings(5));
        bad(state, "game(2, 0)", x -> x.game(2, 0));
        bad(state, "game(0, 2)", x -> x.game(0, 2));
        bad(state, "chance(2, 1)", x -> x.chance(2, 1));
        bad(state, "chance(0, 0)", x -> x.chance(0, 0));
        bad(state, "chance(0, 11)", x -> x.chance(0, 11));
        bad(state, "questions(2)", x -> x.questions(2));
        bad(state, "count(3)", x -> x.count(3));
        refused("part(2)", stateOf(state), x -> x.part(2), -1);
    }

    /** view() makes every call that only looks; twice the same view shows that the first changed nothing. */
    private void looks(int state) {
        MeetSets x = stateOf(state);
        long[] costs = new long[10];
        List<Long> before = view(x);
        checks.same("a second look", view(x), before);
        for (int e = 0; e < x.count(0); e++) {
            costs[e] = x.cost(e, 0);
            x.cost(e, (int) costs[e]);
        }
        checks.same("costs put back", view(x), before);
        MeetSets y = stateOf(state);
        y.shares();
        y.chance(1, 3);
        checks.due("shares and chance leave the sets", y.count(1), stateOf(state).count(1));
        checks.due("shares and chance leave the other list", y.count(2), stateOf(state).count(2));
        checks.due("shares and chance leave the meeters", y.meeters(), stateOf(state).meeters());
    }

    private void fullLists() {
        checks.at("full lists");
        MeetSets x = stateOf(3);
        checks.due("count(1)", x.count(1), 16);
        checks.due("count(2)", x.count(2), 40);
        refused("a seventeenth set", x, z -> z.set(1022), -4);
        refused("a set that is there", x, z -> z.set(1), -2);
        refused("a forty-first of the other list", x, z -> z.other(1023), -4);
        refused("one of the other list that is there", x, z -> z.other(25), -2);
        refused("questions of sixteen", x, z -> z.questions(0), -3);
        refused("the first question of sixteen", x, z -> z.questions(1), -3);
    }

    private void emptyLists() {
        checks.at("empty lists");
        MeetSets x = new MeetSets();
        refused("drop()", x, MeetSets::drop, -3);
        refused("questions(0)", x, z -> z.questions(0), -3);
        refused("questions(1)", x, z -> z.questions(1), -3);
        refused("star(0)", x, z -> z.star(0), -1);
        refused("dimension(0)", x, z -> z.dimension(0), -1);
        refused("dimension(1)", x, z -> z.dimension(1), -1);
        refused("meeter(1)", x, z -> z.meeter(1), -1);
    }

    private void tooManyMeeters() {
        checks.at("above forty meeters");
        MeetSets x = new MeetSets();
        x.ground(10);
        for (int s : new int[] {120, 541, 740, 271, 402}) x.set(s);
        x.other(0);
        x.other(7);
        refused("take()", x, MeetSets::take, -3);
    }
}
