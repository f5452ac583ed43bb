public final class Promise05PlanTest {
    public static void main(String[] args) {
        MoreHands x = new MoreHands();
        Due.is("plan(0, 12)", x.plan(0, 12), 0);
        Due.is("plan(0, 0)", x.plan(0, 0), 12);
        Due.is("plan(23, 4)", x.plan(23, 4), 0);
        Due.is("plan(23, 4) again", x.plan(23, 4), 4);
        Due.refused("plan(23, 13)", x, () -> x.plan(23, 13), MoreHands.OUTSIDE);
        Due.refused("plan(23, -1)", x, () -> x.plan(23, -1), MoreHands.OUTSIDE);
        Due.refused("plan(24, 1)", x, () -> x.plan(24, 1), MoreHands.OUTSIDE);
        Due.refused("plan(-1, 1)", x, () -> x.plan(-1, 1), MoreHands.OUTSIDE);
        Due.is("plan(MIN, 0)", x.plan(Integer.MIN_VALUE, 0), MoreHands.OUTSIDE);
        Due.is("plan(MAX, 0)", x.plan(Integer.MAX_VALUE, 0), MoreHands.OUTSIDE);

        x.tick(23);
        Due.is("UP ahead of hour 23", x.now(8), 1);
        x.tick(1);
        Due.is("UP in hour 23", x.now(8), 4);
        x.tick(1);
        Due.is("UP behind it", x.now(8), 1);
        x.tick(22);
        Due.is("UP in TICK 46", x.now(8), 1);
        x.tick(1);
        Due.is("the hour of TICK 47 is 23", x.now(8), 4);
        Due.is("WANTED of it", x.was(47, 4), 4);

        x.plan(0, 9);
        x.setting(8, 6);
        x.tick(1);
        Due.is("at most MOST", x.now(8), 6);
        x.again();
        Due.is("PLAN stays", x.plan(0, 9), 9);
        Due.is("PLAN stays", x.plan(23, 4), 4);
        Due.end();
    }
}
