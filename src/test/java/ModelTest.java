import java.util.Random;

/** Long runs of calls, good and bad, on MeetSets and on the plain model: each answer must be the same. */
public final class ModelTest {
    private static final int RUNS = 400;
    private static final int CALLS_A_RUN = 120;
    private static final int KINDS = 27;

    private final Checks checks = new Checks();
    private final Random random = new Random(439);
    private MeetSets x;
    private PlainModel y;
    private int n;

    public static void main(String[] args) {
        new ModelTest().run();
    }

    private void run() {
        for (int run = 0; run < RUNS && checks.wrong() < 20; run++) {
            x = new MeetSets();
            y = new PlainModel();
            n = 8;
            checks.at("run " + run);
            if (run % 8 != 0) ground(1 + run % 10);
            fill(random.nextInt(17));
            for (int i = 0; i < CALLS_A_RUN; i++) call(random.nextInt(KINDS + 14));
            checks.due("digest()", x.digest(), y.digest());
        }
        everyQuestionOfLists();
        gamesOnGreatGrounds();
        checks.end();
    }

    /** Lists of one kind each, as a mixed list seldom is near the edge of any call. */
    private void everyQuestionOfLists() {
        for (int round = 0; round < 400 && checks.wrong() < 20; round++) {
            x = new MeetSets();
            y = new PlainModel();
            checks.at("list " + round);
            ground(1 + round % 10);
            int size = 1 + random.nextInt(n);
            int many = random.nextInt(17);
            for (int i = 0; i < many; i++) set(random.nextInt(3) == 0 ? someSet() : setOf(size));
            for (int e = 0; e < n; e++) if (random.nextInt(3) == 0) cost(e, random.nextInt(21));
            for (int kind = 0; kind < KINDS; kind++) {
                if (kind > 4) call(kind);
            }
            checks.same("twoByTwo() is NONE", x.twoByTwo() == MeetSets.NONE, y.lotsThatMeetHaveCommon());
        }
    }

    /** Small sets on nine and ten elements, where either may win and many states are gone through. */
    private void gamesOnGreatGrounds() {
        for (int round = 0; round < 400 && checks.wrong() < 20; round++) {
            x = new MeetSets();
            y = new PlainModel();
            checks.at("game " + round);
            ground(9 + round % 2);
            int many = 4 + random.nextInt(13);
            for (int i = 0; i < many; i++) set(setOf(2 + (round + random.nextInt(2)) % 4));
            for (int begins = 0; begins <= 1; begins++) {
                game(begins, 0);
                game(begins, 1);
            }
        }
    }

    private void fill(int many) {
        for (int i = 0; i < many; i++) set(someSet());
        if (random.nextBoolean()) take();
    }

    private int someSet() {
        return random.nextInt(1 << n);
    }

    private int setOf(int size) {
        int found = 0;
        while (Integer.bitCount(found) < size) found |= 1 << random.nextInt(n);
        return found;
    }

    /** Mostly a number from 0 on, below the bound; now and then one at its edge, or far off. */
    private int number(int bound) {
        switch (random.nextInt(20)) {
            case 0: return bound;
            case 1: return -1;
            case 2: return random.nextInt();
            default: return random.nextInt(bound);
        }
    }

    private void call(int kind) {
        switch (kind) {
            case 0: if (random.nextInt(8) == 0) ground(number(11)); break;
            case 1: drop(); break;
            case 2: cost(number(n), number(21)); break;
            case 3: other(number(1 << n)); break;
            case 4: if (random.nextInt(4) == 0) checks.due("otherless()", x.otherless(), y.otherless()); break;
            case 5: checks.due("meeters()", x.meeters(), y.meeters()); break;
            case 6: meeter(number(30)); break;
            case 7: best(number(2)); break;
            case 8: take(); break;
            case 9: checks.due("witness()", x.witness(), y.witness()); break;
            case 10: checks.due("shares()", x.shares(), y.shares()); parts(); break;
            case 11: checks.due("apart()", x.apart(), y.apart()); break;
            case 12: star(number(2)); break;
            case 13: seen(number(1 << n)); break;
            case 14: dimension(number(2)); break;
            case 15: colourings(n > 8 && random.nextInt(4) > 0 ? 2 : number(5)); break;
            case 16: checks.due("colouring()", x.colouring(), y.colouring()); break;
            case 17: checks.due("ears()", x.ears(), y.ears()); break;
            case 18: checks.due("twoByTwo()", x.twoByTwo(), y.twoByTwo()); break;
            case 19: game(number(2), number(2)); break;
            case 20: chance(number(11), number(11)); break;
            case 21: parts(); break;
            case 22: swings(number(n)); break;
            case 23: questions(number(2)); break;
            case 24: count(number(3)); break;
            case 25: checks.due("digest()", x.digest(), y.digest()); break;
            case 26: part(number(2)); break;
            default: set(number(1 << n)); break;
        }
    }

    private void ground(int v) {
        checks.due("ground(" + v + ")", x.ground(v), y.ground(v));
        n = y.count(0);
    }

    private void set(int v) {
        checks.due("set(" + v + ")", x.set(v), y.set(v));
    }

    private void drop() {
        checks.due("drop()", x.drop(), y.drop());
    }

    private void cost(int e, int v) {
        checks.due("cost(" + e + ", " + v + ")", x.cost(e, v), y.cost(e, v));
    }

    private void other(int v) {
        checks.due("other(" + v + ")", x.other(v), y.other(v));
    }

    private void meeter(int i) {
        checks.due("meeter(" + i + ")", x.meeter(i), y.meeter(i));
    }

    private void best(int what) {
        checks.due("best(" + what + ")", x.best(what), y.best(what));
    }

    private void take() {
        checks.due("take()", x.take(), y.take());
    }

    private void star(int what) {
        checks.due("star(" + what + ")", x.star(what), y.star(what));
    }

    private void seen(int part) {
        checks.due("seen(" + part + ")", x.seen(part), y.seen(part));
    }

    private void dimension(int what) {
        checks.due("dimension(" + what + ")", x.dimension(what), y.dimension(what));
    }

    private void colourings(int c) {
        checks.due("colourings(" + c + ")", x.colourings(c), y.colourings(c));
    }

    private void game(int begins, int what) {
        checks.due("game(" + begins + ", " + what + ")", x.game(begins, what), y.game(begins, what));
    }

    private void chance(int a, int b) {
        checks.due("chance(" + a + ", " + b + ")", x.chance(a, b), y.chance(a, b));
        parts();
    }

    private void parts() {
        part(0);
        part(1);
    }

    private void part(int what) {
        checks.due("part(" + what + ")", x.part(what), y.part(what));
    }

    private void swings(int element) {
        checks.due("swings(" + element + ")", x.swings(element), y.swings(element));
    }

    private void questions(int what) {
        checks.due("questions(" + what + ")", x.questions(what), y.questions(what));
    }

    private void count(int what) {
        checks.due("count(" + what + ")", x.count(what), y.count(what));
    }
}
