/** Promise 24, part: THE FRACTION: above (0), below (1). BAD: -1. */
public final class Promise24PartTest {
    public static void main(String[] args) {
        Checks.runAll(Promise24PartTest.class);
    }

    static void atFirstItIsZeroByOne(Checks c) {
        Held.NEW.stays(c, "part(0)", x -> x.part(0), 0);
        Held.NEW.stays(c, "part(1)", x -> x.part(1), 1);
    }

    static void itIsAsTheLastCallLeftIt(Checks c) {
        MeetSets x = Lists.of(3, Lists.TRIANGLE);
        x.shares();
        c.fraction("a triangle's shares", x, 3, 2);
        x.chance(1, 3);
        c.fraction("its chance", x, 7, 27);
        x.shares();
        c.fraction("its shares again", x, 3, 2);
    }

    static void itStaysWhenTheListDoesNot(Checks c) {
        MeetSets x = Lists.of(3, Lists.TRIANGLE);
        x.shares();
        x.drop();
        c.fraction("after drop()", x, 3, 2);
        x.set(7);
        c.fraction("after set(7)", x, 3, 2);
        x.cost(0, 20);
        c.fraction("after cost(0, 20)", x, 3, 2);
        x.take();
        c.fraction("after take()", x, 3, 2);
        x.ground(1);
        c.fraction("after ground(1)", x, 3, 2);
    }

    static void beyondAnIntToo(Checks c) {
        Held.TEN_FULL.stays(c, "part(0)", x -> x.part(0), 6513215599L);
        Held.TEN_FULL.stays(c, "part(1)", x -> x.part(1), 10000000000L);
    }

    static void belowZeroIsBad(Checks c) {
        Held.refusedBelow(c, "part", n -> -1, MeetSets::part, -1);
    }

    static void aboveOneIsBad(Checks c) {
        Held.refusedAbove(c, "part", n -> 2, MeetSets::part, -1);
    }
}
