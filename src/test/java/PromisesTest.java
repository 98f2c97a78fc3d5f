/** Each promise of the document by itself, mostly on lists whose answers can be worked out by hand. */
public final class PromisesTest {
    /** Lines of seven points: any two points lie on one line, any two lines meet in one point. */
    private static final int[] FANO = {7, 25, 97, 42, 82, 76, 52};
    private static final int[] TRIANGLE = {3, 6, 5};
    /** Two rings of five, 0 to 4 and 5 to 9 (the inner one by steps of two), with five spokes. */
    private static final int[] PETERSEN = {
        pair(0, 1), pair(1, 2), pair(2, 3), pair(3, 4), pair(4, 0),
        pair(0, 5), pair(1, 6), pair(2, 7), pair(3, 8), pair(4, 9),
        pair(5, 7), pair(7, 9), pair(9, 6), pair(6, 8), pair(8, 5)};
    private static final int[] TEN_SINGLES = {1, 2, 4, 8, 16, 32, 64, 128, 256, 512};
    private static final int[] FIVE_PAIRS = {3, 12, 48, 192, 768};

    private final Checks checks = new Checks();

    public static void main(String[] args) {
        new PromisesTest().run();
    }

    private void run() {
        aNewObject();
        ground();
        set();
        drop();
        cost();
        meeters();
        meeter();
        best();
        other();
        otherless();
        take();
        witness();
        shares();
        apart();
        star();
        seen();
        dimension();
        colourings();
        colouring();
        ears();
        twoByTwo();
        game();
        chance();
        part();
        swings();
        questions();
        count();
        digest();
        checks.end();
    }

    private static int pair(int a, int b) {
        return 1 << a | 1 << b;
    }

    private static MeetSets listOf(int n, int... sets) {
        MeetSets x = new MeetSets();
        x.ground(n);
        for (int s : sets) x.set(s);
        return x;
    }

    /** n is 5 at least: the sets 1 to 16. */
    private static MeetSets fullList(int n) {
        MeetSets x = listOf(n);
        for (int s = 1; s <= 16; s++) x.set(s);
        return x;
    }

    private void fraction(String what, MeetSets x, long above, long below) {
        checks.due(what + ", above", x.part(0), above);
        checks.due(what + ", below", x.part(1), below);
    }

    private void sharesAre(String what, MeetSets x, long above, long below) {
        checks.due(what + ": shares()", x.shares(), 1);
        fraction(what + ": shares", x, above, below);
    }

    private void chanceIs(String what, MeetSets x, int a, int b, long above, long below) {
        checks.due(what + ": chance(" + a + ", " + b + ")", x.chance(a, b), 1);
        fraction(what + ": chance " + a + " by " + b, x, above, below);
    }

    private static long mixed(long... row) {
        long h = 439;
        for (long v : row) h = 31 * h + v;
        return h;
    }

    private void aNewObject() {
        checks.at("promise 1");
        MeetSets x = new MeetSets();
        checks.due("NONE", MeetSets.NONE, -1);
        checks.due("BAD", MeetSets.BAD, -2);
        checks.due("NO", MeetSets.NO, -3);
        checks.due("FULL", MeetSets.FULL, -4);
        checks.due("count(0)", x.count(0), 8);
        checks.due("count(1)", x.count(1), 0);
        checks.due("count(2)", x.count(2), 0);
        fraction("at first", x, 0, 1);
        for (int e = 0; e < 8; e++) checks.due("cost(" + e + ", 1)", x.cost(e, 1), 1);
        checks.due("digest()", x.digest(), mixed(8, 0, 0, 1, 1, 1, 1, 1, 1, 1, 1, 1, 0, 0, 0, 0, 0, 1));
        x.ground(10);
        for (int e = 0; e < 10; e++) checks.due("cost(" + e + ", 1) of ten", x.cost(e, 1), 1);
        MeetSets y = new MeetSets();
        y.set(1);
        checks.due("another object's count(1)", x.count(1), 0);
    }

    private void ground() {
        checks.at("promise 2");
        for (int n = 1; n <= 10; n++) {
            MeetSets x = new MeetSets();
            checks.due("ground(" + n + ")", x.ground(n), 1);
            checks.due("count(0)", x.count(0), n);
            checks.due("the greatest set", x.set((1 << n) - 1), 0);
            checks.due("one beyond", x.set(1 << n), -2);
            checks.due("the last element's cost", x.cost(n - 1, 3), 1);
            checks.due("one element beyond", x.cost(n, 3), -2);
        }
        MeetSets x = listOf(3, TRIANGLE);
        x.take();
        x.cost(1, 7);
        x.chance(1, 2);
        checks.due("ground(4)", x.ground(4), 1);
        checks.due("count(1)", x.count(1), 0);
        checks.due("count(2)", x.count(2), 0);
        checks.due("meeters()", x.meeters(), 1);
        checks.due("witness()", x.witness(), 0);
        checks.due("the cost stays", x.cost(1, 7), 7);
        fraction("the fraction stays", x, 1, 2);
        x.ground(1);
        x.ground(10);
        checks.due("the cost stays beyond a small ground", x.cost(1, 7), 7);
        checks.due("a set may come again", x.set(3), 0);
        checks.due("ground(10) again", x.ground(10), 1);
        checks.due("count(1) of the same ground", x.count(1), 0);
    }

    private void set() {
        checks.at("promise 3");
        MeetSets x = new MeetSets();
        x.ground(5);
        for (int s = 1; s <= 16; s++) checks.due("set(" + s + ")", x.set(s), s - 1);
        checks.due("a seventeenth", x.set(17), -4);
        checks.due("BAD comes before FULL: it is in the list", x.set(16), -2);
        checks.due("BAD comes before FULL: none", x.set(0), -2);
        checks.due("BAD comes before FULL: beyond the ground", x.set(32), -2);
        checks.due("count(1)", x.count(1), 16);
        checks.due("drop()", x.drop(), 16);
        checks.due("set(17)", x.set(17), 15);
        MeetSets one = listOf(1);
        checks.due("none", one.set(0), -2);
        checks.due("below", one.set(-1), -2);
        checks.due("beyond", one.set(2), -2);
        checks.due("the least int", one.set(Integer.MIN_VALUE), -2);
        checks.due("the only one", one.set(1), 0);
        checks.due("again", one.set(1), -2);
        one.other(0);
        checks.due("what the other list has may be in the list", listWithOther(3).set(3), 0);
    }

    private static MeetSets listWithOther(int elements) {
        MeetSets x = new MeetSets();
        x.other(elements);
        return x;
    }

    private void drop() {
        checks.at("promise 4");
        MeetSets x = listOf(3, TRIANGLE);
        checks.due("drop()", x.drop(), 5);
        checks.due("meeters() of a path", x.meeters(), 2);
        checks.due("drop()", x.drop(), 6);
        checks.due("set(5)", x.set(5), 1);
        checks.due("drop()", x.drop(), 5);
        checks.due("drop()", x.drop(), 3);
        checks.due("drop()", x.drop(), -3);
        checks.due("drop() again", x.drop(), -3);
        checks.due("count(1)", x.count(1), 0);
        checks.due("meeters() of an empty list", x.meeters(), 1);
        checks.due("what was dropped may come again", x.set(3), 0);
    }

    private void cost() {
        checks.at("promise 5");
        MeetSets x = listOf(1);
        checks.due("cost(0, 0)", x.cost(0, 0), 1);
        checks.due("cost(0, 20)", x.cost(0, 20), 0);
        checks.due("cost(0, 21)", x.cost(0, 21), -2);
        checks.due("cost(0, -1)", x.cost(0, -1), -2);
        checks.due("cost(1, 1)", x.cost(1, 1), -2);
        checks.due("cost(-1, 1)", x.cost(-1, 1), -2);
        checks.due("it is as before", x.cost(0, 5), 20);
        checks.due("and as it was set", x.cost(0, 5), 5);
    }

    private void meeters() {
        checks.at("promise 6");
        checks.due("an empty list", listOf(10).meeters(), 1);
        checks.due("a ground of one", listOf(1, 1).meeters(), 1);
        checks.due("a triangle", listOf(3, TRIANGLE).meeters(), 3);
        checks.due("fano", listOf(7, FANO).meeters(), 7);
        checks.due("five pairs", listOf(10, FIVE_PAIRS).meeters(), 32);
        checks.due("ten singles", listOf(10, TEN_SINGLES).meeters(), 1);
        checks.due("all ten", listOf(10, 1023).meeters(), 10);
        checks.due("petersen", listOf(10, PETERSEN).meeters(), 15);
        checks.due("a greater set adds nothing", listOf(4, 3, 7, 15).meeters(), 2);
        checks.due("a full list", fullList(5).meeters(), 1);
        checks.due("above forty", listOf(10, 120, 541, 740, 271, 402).meeters(), 41);
    }

    private void meeter() {
        checks.at("promise 7");
        MeetSets x = listOf(7, FANO);
        int[] inOrder = {7, 25, 42, 52, 76, 82, 97};
        for (int i = 0; i < 7; i++) checks.due("fano's meeter(" + i + ")", x.meeter(i), inOrder[i]);
        checks.due("meeter(7)", x.meeter(7), -1);
        checks.due("meeter(2147483647)", x.meeter(Integer.MAX_VALUE), -1);
        checks.due("meeter(-1)", x.meeter(-1), -2);
        checks.due("meeter(-2147483648)", x.meeter(Integer.MIN_VALUE), -2);
        MeetSets none = listOf(1);
        checks.due("of an empty list, none at all", none.meeter(0), 0);
        checks.due("and no more", none.meeter(1), -1);
        MeetSets pairs = listOf(10, FIVE_PAIRS);
        checks.due("the first of 32", pairs.meeter(0), 341);
        checks.due("the last of 32", pairs.meeter(31), 682);
        checks.due("a full list", fullList(5).meeter(0), 31);
    }

    private void best() {
        checks.at("promise 8");
        MeetSets x = listOf(3, TRIANGLE);
        checks.due("best(0)", x.best(0), 3);
        checks.due("best(1), all costs alike", x.best(1), 3);
        x.cost(0, 20);
        checks.due("best(0) looks at no cost", x.best(0), 3);
        checks.due("best(1)", x.best(1), 6);
        x.cost(0, 0);
        x.cost(2, 0);
        checks.due("best(1), the two that cost nothing", x.best(1), 5);
        checks.due("best(2)", x.best(2), -2);
        checks.due("best(-1)", x.best(-1), -2);
        MeetSets many = listOf(4, 3, 5, 9);
        many.cost(0, 3);
        checks.due("of like cost, the fewest elements", many.best(1), 1);
        many.cost(0, 4);
        checks.due("three for three", many.best(1), 14);
        MeetSets like = listOf(4, 6);
        checks.due("of like ones the least number", like.best(1), 2);
        like.cost(1, 2);
        checks.due("the cheaper one", like.best(1), 4);
        MeetSets free = listOf(4, 12);
        for (int e = 0; e < 4; e++) free.cost(e, 0);
        checks.due("nothing costs: the fewest", free.best(1), 4);
        checks.due("an empty list, fewest", listOf(10).best(0), 0);
        checks.due("an empty list, cheapest", listOf(10).best(1), 0);
        checks.due("petersen has a cover of six", Integer.bitCount(listOf(10, PETERSEN).best(0)), 6);
        checks.due("a full list", fullList(5).best(0), 31);
    }

    private void other() {
        checks.at("promise 9");
        MeetSets x = listOf(6);
        for (int t = 0; t < 40; t++) checks.due("other(" + t + ")", x.other(t), t + 1);
        checks.due("a forty-first", x.other(40), -4);
        checks.due("BAD comes before FULL: it is in it", x.other(39), -2);
        checks.due("BAD comes before FULL: beyond", x.other(64), -2);
        checks.due("count(2)", x.count(2), 40);
        MeetSets one = listOf(1);
        checks.due("other(2)", one.other(2), -2);
        checks.due("other(-1)", one.other(-1), -2);
        checks.due("none may be", one.other(0), 1);
        checks.due("once", one.other(0), -2);
        checks.due("other(1)", one.other(1), 2);
        one.set(1);
        checks.due("count(1)", one.count(1), 1);
    }

    private void otherless() {
        checks.at("promise 10");
        MeetSets x = listOf(6);
        checks.due("nothing there", x.otherless(), 0);
        for (int t = 0; t < 40; t++) x.other(t);
        checks.due("forty", x.otherless(), 40);
        checks.due("count(2)", x.count(2), 0);
        checks.due("witness() of two empty lists", x.witness(), 0);
        checks.due("they may come again", x.other(39), 1);
        MeetSets both = listOf(3, TRIANGLE);
        both.take();
        both.otherless();
        checks.due("the list stays", both.count(1), 3);
    }

    private void take() {
        checks.at("promise 11");
        MeetSets x = listOf(3, TRIANGLE);
        x.other(7);
        checks.due("take()", x.take(), 3);
        checks.due("count(2)", x.count(2), 3);
        for (int t : new int[] {3, 5, 6}) checks.due("other(" + t + ") is in it", x.other(t), -2);
        checks.due("what was there is gone", x.other(7), 4);
        checks.due("an empty list", listOf(1).take(), 1);
        MeetSets forty = listOf(10, 20, 352, 928, 712, 11);
        checks.due("just forty", forty.take(), 40);
        checks.due("forty are there", forty.count(2), 40);
        checks.due("they are dual", forty.witness(), -1);
        checks.due("and full", forty.other(1023), -4);
        MeetSets above = listOf(10, 120, 541, 740, 271, 402);
        above.other(5);
        checks.due("above forty", above.take(), -3);
        checks.due("the other list is as it was", above.otherless(), 1);
        MeetSets order = listOf(3, TRIANGLE);
        order.take();
        checks.due("digest(): they are taken in order",
            order.digest(), mixed(3, 3, 3, 3, 6, 5, 3, 5, 6, 1, 1, 1, 3, 3, 3, 1, 7, 0, 1));
    }

    private void witness() {
        checks.at("promise 12");
        MeetSets x = listOf(3, TRIANGLE);
        checks.due("no other list: none is so", x.witness(), 0);
        x.other(3);
        checks.due("{2} misses what {0, 1} meets: none is so", x.witness(), 1);
        x.other(6);
        checks.due("still the path between", x.witness(), 2);
        x.other(5);
        checks.due("dual", x.witness(), -1);
        x.other(1);
        checks.due("both are so", x.witness(), 6);
        MeetSets fano = listOf(7, FANO);
        for (int s : FANO) fano.other(s);
        checks.due("fano is its own other list", fano.witness(), -1);
        fano.drop();
        checks.due("less one line", fano.witness(), 52);
        MeetSets none = listOf(10);
        none.other(0);
        checks.due("an empty list and none at all", none.witness(), -1);
        none.set(1023);
        checks.due("both are so of the whole ground", none.witness(), 1023);
        MeetSets one = listOf(1, 1);
        one.other(1);
        checks.due("a ground of one", one.witness(), -1);
        one.drop();
        checks.due("nothing has a set of an empty list in it", one.witness(), 1);
    }

    private void shares() {
        checks.at("promise 13");
        sharesAre("an empty list", listOf(10), 0, 1);
        sharesAre("a ground of one", listOf(1, 1), 1, 1);
        sharesAre("a triangle", listOf(3, TRIANGLE), 3, 2);
        sharesAre("fano", listOf(7, FANO), 7, 3);
        sharesAre("a ring of nine", listOf(9, ring(9)), 9, 2);
        sharesAre("petersen", listOf(10, PETERSEN), 5, 1);
        sharesAre("ten singles", listOf(10, TEN_SINGLES), 10, 1);
        sharesAre("a full list", fullList(5), 5, 1);
        sharesAre("all threes of five", listOf(5, 7, 11, 13, 14, 19, 21, 22, 25, 26, 28), 5, 3);
        MeetSets dear = listOf(7, FANO);
        for (int e = 0; e < 7; e++) dear.cost(e, 20);
        sharesAre("fano, all costs 20", dear, 140, 3);
        dear.cost(0, 0);
        sharesAre("fano, point 0 for nothing: four lines are left, two a point", dear, 40, 1);
        MeetSets free = listOf(3, TRIANGLE);
        free.cost(0, 0);
        free.cost(1, 0);
        sharesAre("a cover for nothing", free, 0, 1);
        int[] odd = {717, 315, 834, 182, 650, 541, 706, 460, 872, 691, 808, 721, 122, 295, 429, 106};
        sharesAre("parts of 130", listOf(10, odd), 271, 130);
    }

    private static int[] ring(int n) {
        int[] sets = new int[n];
        for (int e = 0; e < n; e++) sets[e] = pair(e, (e + 1) % n);
        return sets;
    }

    private void apart() {
        checks.at("promise 14");
        checks.due("an empty list", listOf(10).apart(), 0);
        checks.due("a ground of one", listOf(1, 1).apart(), 1);
        checks.due("a triangle: of like ones the least", listOf(3, TRIANGLE).apart(), 1);
        checks.due("fano", listOf(7, FANO).apart(), 1);
        checks.due("five pairs", listOf(10, FIVE_PAIRS).apart(), 31);
        checks.due("ten singles", listOf(10, TEN_SINGLES).apart(), 1023);
        checks.due("petersen's spokes", listOf(10, PETERSEN).apart(), 31 << 5);
        checks.due("the great one is left out", listOf(4, 15, 3, 12).apart(), 6);
        checks.due("bits that are less as a number", listOf(4, 3, 12, 5, 10).apart(), 3);
        checks.due("a full list: the singles", fullList(5).apart(), 1 << 0 | 1 << 1 | 1 << 3 | 1 << 7 | 1 << 15);
    }

    private void star() {
        checks.at("promise 15");
        checks.due("an empty list", listOf(10).star(0), -1);
        checks.due("one set, what 1", listOf(10, 5).star(1), -1);
        checks.due("BAD comes first", listOf(10).star(2), -2);
        checks.due("star(-1)", listOf(10).star(-1), -2);
        MeetSets x = listOf(7, FANO);
        checks.due("the lines through 0", x.star(0), 7);
        checks.due("have 0 in common", x.star(1), 1);
        MeetSets two = listOf(4, 7, 14);
        checks.due("any two are a star", two.star(0), 3);
        checks.due("its core", two.star(1), 6);
        MeetSets within = listOf(4, 3, 5, 9, 1);
        checks.due("the core may be one of them", within.star(0), 15);
        checks.due("and is", within.star(1), 1);
        MeetSets pairs = listOf(10, FIVE_PAIRS);
        checks.due("sets apart are a star", pairs.star(0), 31);
        checks.due("without a core", pairs.star(1), 0);
        MeetSets more = listOf(6, 3, 12, 5, 9, 17, 33);
        checks.due("the greater one, though its bits are more", more.star(0), 1 | 4 | 8 | 16 | 32);
        checks.due("its core", more.star(1), 1);
        MeetSets full = fullList(5);
        checks.due("a full list: the singles", full.star(0), 1 << 0 | 1 << 1 | 1 << 3 | 1 << 7 | 1 << 15);
        checks.due("a full list: no core", full.star(1), 0);
    }

    private void seen() {
        checks.at("promise 16");
        MeetSets x = listOf(3, TRIANGLE);
        checks.due("seen(0)", x.seen(0), 1);
        checks.due("seen(1)", x.seen(1), 2);
        checks.due("seen(3)", x.seen(3), 3);
        checks.due("seen(7)", x.seen(7), 3);
        checks.due("seen(8)", x.seen(8), -2);
        checks.due("seen(-1)", x.seen(-1), -2);
        checks.due("an empty list", listOf(10).seen(1023), 0);
        checks.due("an empty list, no part", listOf(10).seen(0), 0);
        checks.due("a full list", fullList(10).seen(1023), 16);
        checks.due("a full list, four elements", fullList(10).seen(15), 16);
        checks.due("a full list, five others", fullList(10).seen(992), 1);
    }

    private void dimension() {
        checks.at("promise 17");
        checks.due("an empty list", listOf(10).dimension(0), -1);
        checks.due("an empty list, the part", listOf(10).dimension(1), -1);
        checks.due("BAD comes first", listOf(10).dimension(2), -2);
        checks.due("dimension(-1)", fullList(5).dimension(-1), -2);
        checks.due("one set", listOf(1, 1).dimension(0), 0);
        checks.due("one set, the part is none at all", listOf(1, 1).dimension(1), 0);
        checks.due("fano", listOf(7, FANO).dimension(0), 2);
        checks.due("fano's part", listOf(7, FANO).dimension(1), 3);
        checks.due("two sets that differ in 9", listOf(10, 1, 513).dimension(1), 512);
        checks.due("how many", listOf(10, 1, 513).dimension(0), 1);
        checks.due("a full list", fullList(5).dimension(0), 4);
        checks.due("its part", fullList(5).dimension(1), 15);
    }

    private void colourings() {
        checks.at("promise 18");
        int[] allOfTen = {1024, 59049, 1048576};
        int[] petersen = {0, 120, 12960};
        int[] ringOfFive = {0, 30, 240};
        for (int c = 2; c <= 4; c++) {
            String by = " by " + c;
            checks.due("an empty list" + by, listOf(10).colourings(c), allOfTen[c - 2]);
            checks.due("all but one colour" + by, listOf(10, 1023).colourings(c), allOfTen[c - 2] - c);
            checks.due("a ground of one" + by, listOf(1).colourings(c), c);
            checks.due("a single" + by, listOf(1, 1).colourings(c), 0);
            checks.due("a full list" + by, fullList(10).colourings(c), 0);
            checks.due("petersen" + by, listOf(10, PETERSEN).colourings(c), petersen[c - 2]);
            checks.due("a ring of five" + by, listOf(5, ring(5)).colourings(c), ringOfFive[c - 2]);
        }
        checks.due("all pairs of four, by 4", listOf(4, 3, 5, 9, 6, 10, 12).colourings(4), 24);
        checks.due("all pairs of four, by 3", listOf(4, 3, 5, 9, 6, 10, 12).colourings(3), 0);
        for (int c : new int[] {1, 0, -1, 5, Integer.MAX_VALUE, Integer.MIN_VALUE}) {
            checks.due("colourings(" + c + ")", listOf(4).colourings(c), -2);
        }
    }

    private void colouring() {
        checks.at("promise 19");
        checks.due("an empty list", listOf(10).colouring(), 0);
        checks.due("a ground of one", listOf(1).colouring(), 0);
        checks.due("a single", listOf(1, 1).colouring(), -1);
        checks.due("fano", listOf(7, FANO).colouring(), -1);
        checks.due("fano less a line: just that line has one colour", listOf(7, 7, 25, 97, 42, 82, 76).colouring(), 11);
        checks.due("five pairs", listOf(10, FIVE_PAIRS).colouring(), 341);
        checks.due("all ten", listOf(10, 1023).colouring(), 1);
        checks.due("the last pair", listOf(10, 768).colouring(), 256);
    }

    private void ears() {
        checks.at("promise 20");
        checks.due("an empty list", listOf(10).ears(), 0);
        checks.due("a ground of one", listOf(1, 1).ears(), 0);
        checks.due("a path", listOf(3, 3, 6).ears(), 0);
        checks.due("a triangle", listOf(3, TRIANGLE).ears(), 7);
        checks.due("a triangle in one set", listOf(3, 3, 6, 5, 7).ears(), 0);
        checks.due("a triangle with a tail", listOf(5, 3, 24, 6, 5, 12).ears(), 1 | 4 | 8);
        checks.due("of two that are now alike the least goes", listOf(4, 3, 6, 5, 11).ears(), 14);
        checks.due("an element goes before a set", listOf(4, 11, 3, 6, 5).ears(), 14);
        checks.due("fano", listOf(7, FANO).ears(), 127);
        checks.due("petersen", listOf(10, PETERSEN).ears(), 32767);
        checks.due("five pairs", listOf(10, FIVE_PAIRS).ears(), 0);
        checks.due("a full list", fullList(5).ears(), 0);
        int[] wide = {3, 6, 12, 24, 48, 96, 192, 384, 768, 513, 5, 10, 20, 40, 80, 160};
        checks.due("a full list that stands", listOf(10, wide).ears(), 65535);
    }

    private void twoByTwo() {
        checks.at("promise 21");
        checks.due("an empty list", listOf(10).twoByTwo(), -1);
        checks.due("a ground of one", listOf(1, 1).twoByTwo(), -1);
        checks.due("a ground of two", listOf(2, 1, 2, 3).twoByTwo(), -1);
        checks.due("a triangle", listOf(3, TRIANGLE).twoByTwo(), 7);
        checks.due("a triangle in one set", listOf(3, 3, 6, 5, 7).twoByTwo(), 7);
        checks.due("a ring of four", listOf(4, ring(4)).twoByTwo(), -1);
        checks.due("fano: no line of the three is one", listOf(7, FANO).twoByTwo(), 11);
        checks.due("three with one in common", listOf(4, 11, 14, 13).twoByTwo(), -1);
        checks.due("five pairs", listOf(10, FIVE_PAIRS).twoByTwo(), -1);
        checks.due("the last three", listOf(10, 768, 640, 384).twoByTwo(), 896);
        checks.due("a full list", fullList(5).twoByTwo(), 7);
    }

    private void game() {
        checks.at("promise 22");
        gameIs("an empty list", listOf(10), 1, -1, 1, 0);
        gameIs("a ground of one", listOf(1, 1), 0, 0, 1, 0);
        gameIs("the last single", listOf(10, 512), 0, 9, 1, 9);
        gameIs("two singles: all moves win", listOf(10, 4, 512), 0, 0, 0, -1);
        gameIs("a triangle", listOf(3, TRIANGLE), 0, 0, 1, 0);
        gameIs("five pairs", listOf(10, FIVE_PAIRS), 1, -1, 1, 0);
        gameIs("two pairs with one in common", listOf(4, 6, 10), 0, 1, 1, 1);
        gameIs("all ten", listOf(10, 1023), 1, -1, 1, 0);
        gameIs("fano", listOf(7, FANO), 0, 0, 1, 0);
        gameIs("petersen", listOf(10, PETERSEN), 0, 0, 0, -1);
        for (int[] wrong : new int[][] {{-1, 0}, {2, 0}, {0, -1}, {0, 2}, {1, 2}, {2, 2}}) {
            checks.due("game(" + wrong[0] + ", " + wrong[1] + ")", listOf(3, TRIANGLE).game(wrong[0], wrong[1]), -2);
        }
    }

    private void gameIs(String what, MeetSets x, int who, int move, int otherWho, int otherMove) {
        checks.due(what + ": game(0, 0)", x.game(0, 0), who);
        checks.due(what + ": game(0, 1)", x.game(0, 1), move);
        checks.due(what + ": game(1, 0)", x.game(1, 0), otherWho);
        checks.due(what + ": game(1, 1)", x.game(1, 1), otherMove);
    }

    private void chance() {
        checks.at("promise 23");
        chanceIs("an empty list", listOf(10), 0, 1, 1, 1);
        chanceIs("a ground of one", listOf(1, 1), 4, 10, 2, 5);
        chanceIs("a ground of one", listOf(1, 1), 0, 1, 0, 1);
        chanceIs("a triangle", listOf(3, TRIANGLE), 1, 3, 7, 27);
        chanceIs("fano", listOf(7, FANO), 1, 2, 1, 2);
        chanceIs("all ten", listOf(10, 1023), 1, 10, 6513215599L, 10000000000L);
        chanceIs("ten singles", listOf(10, TEN_SINGLES), 9, 10, 3486784401L, 10000000000L);
        chanceIs("ten singles", listOf(10, TEN_SINGLES), 5, 10, 1, 1024);
        chanceIs("five pairs", listOf(10, FIVE_PAIRS), 10, 10, 1, 1);
        chanceIs("five pairs", listOf(10, FIVE_PAIRS), 0, 10, 0, 1);
        chanceIs("five pairs", listOf(10, FIVE_PAIRS), 1, 2, 243, 1024);
        chanceIs("a full list", fullList(5), 1, 1, 1, 1);
        MeetSets x = listOf(3, TRIANGLE);
        x.chance(1, 3);
        int[][] wrongs = {{-1, 2}, {3, 2}, {0, 0}, {0, 11}, {11, 11}, {0, -1}, {-3, -2}, {1, Integer.MAX_VALUE}};
        for (int[] wrong : wrongs) {
            checks.due("chance(" + wrong[0] + ", " + wrong[1] + ")", x.chance(wrong[0], wrong[1]), -2);
            fraction("it is as it was", x, 7, 27);
        }
    }

    private void part() {
        checks.at("promise 24");
        MeetSets x = listOf(3, TRIANGLE);
        x.shares();
        fraction("a triangle's shares", x, 3, 2);
        x.drop();
        fraction("it stays when the list does not", x, 3, 2);
        for (int what : new int[] {-1, 2, Integer.MAX_VALUE, Integer.MIN_VALUE}) {
            checks.due("part(" + what + ")", x.part(what), -1);
        }
    }

    private void swings() {
        checks.at("promise 25");
        checks.due("an empty list", listOf(10).swings(9), 0);
        checks.due("a ground of one", listOf(1, 1).swings(0), 1);
        checks.due("the only one that matters", listOf(10, 512).swings(9), 512);
        checks.due("one that does not", listOf(10, 512).swings(0), 0);
        for (int e = 0; e < 7; e++) checks.due("fano's swings(" + e + ")", listOf(7, FANO).swings(e), 18);
        checks.due("a path's middle", listOf(3, 3, 6).swings(1), 3);
        checks.due("a path's end", listOf(3, 3, 6).swings(0), 1);
        checks.due("a full list", fullList(5).swings(4), 1);
        for (int e : new int[] {-1, 7, 10, 32, Integer.MAX_VALUE, Integer.MIN_VALUE}) {
            checks.due("swings(" + e + ")", listOf(7, FANO).swings(e), -2);
        }
    }

    private void questions() {
        checks.at("promise 26");
        checks.due("no sets", listOf(10).questions(0), -3);
        checks.due("no sets, the first", listOf(10).questions(1), -3);
        checks.due("BAD comes first", listOf(10).questions(2), -2);
        checks.due("questions(-1)", listOf(10, 1).questions(-1), -2);
        checks.due("one set", listOf(1, 1).questions(0), 0);
        checks.due("one set: nothing is to be asked", listOf(1, 1).questions(1), -1);
        checks.due("two sets", listOf(10, 1, 513).questions(0), 1);
        checks.due("they differ in 9", listOf(10, 1, 513).questions(1), 9);
        checks.due("fano", listOf(7, FANO).questions(0), 3);
        checks.due("fano, the first", listOf(7, FANO).questions(1), 0);
        checks.due("ten singles", listOf(10, TEN_SINGLES).questions(0), 9);
        checks.due("ten singles, the first", listOf(10, TEN_SINGLES).questions(1), 0);
        checks.due("the middle of three", listOf(10, 1, 6, 10, 4).questions(1), 1);
        MeetSets twelve = listOf(4, 1, 2, 3, 4, 5, 6, 7, 8, 9, 10, 11, 12);
        checks.due("twelve", twelve.questions(0), 4);
        checks.due("twelve, the first", twelve.questions(1), 0);
        twelve.set(13);
        checks.due("thirteen", twelve.questions(0), -3);
        checks.due("thirteen, the first", twelve.questions(1), -3);
        checks.due("thirteen, BAD comes first", twelve.questions(2), -2);
        twelve.drop();
        checks.due("twelve again", twelve.questions(0), 4);
        checks.due("a full list", fullList(5).questions(0), -3);
    }

    private void count() {
        checks.at("promise 27");
        MeetSets x = listOf(3, TRIANGLE);
        x.other(1);
        x.other(2);
        checks.due("count(0)", x.count(0), 3);
        checks.due("count(1)", x.count(1), 3);
        checks.due("count(2)", x.count(2), 2);
        x.drop();
        checks.due("count(1)", x.count(1), 2);
        for (int what : new int[] {-1, 3, Integer.MAX_VALUE, Integer.MIN_VALUE}) {
            checks.due("count(" + what + ")", x.count(what), -2);
        }
    }

    private void digest() {
        checks.at("promise 28");
        checks.due("a ground of one", listOf(1).digest(), mixed(1, 0, 0, 1, 1, 0, 0, 0, 0, 0, 1));
        MeetSets x = listOf(3, 3, 6, 5);
        x.other(7);
        x.other(0);
        x.cost(0, 20);
        x.cost(2, 0);
        x.chance(1, 3);
        checks.due("a triangle with all that it mixes", x.digest(),
            mixed(3, 3, 2, 3, 6, 5, 7, 0, 20, 1, 0, 3, 3, 6, 1, 7, 7, 27));
        checks.due("again", x.digest(), mixed(3, 3, 2, 3, 6, 5, 7, 0, 20, 1, 0, 3, 3, 6, 1, 7, 7, 27));
        MeetSets y = listOf(3, 6, 3, 5);
        MeetSets z = listOf(3, 3, 6, 5);
        checks.same("the order of the sets is mixed in", y.digest() == z.digest(), false);
    }
}
