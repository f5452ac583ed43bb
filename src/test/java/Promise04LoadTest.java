public final class Promise04LoadTest {
    public static void main(String[] args) {
        MoreHands x = new MoreHands();
        Due.is("load(0, 60)", x.load(0, 60), 0);
        Due.is("load(0, 7)", x.load(0, 7), 60);
        Due.is("load(0, 7) again", x.load(0, 7), 7);
        Due.is("load(199, 60)", x.load(199, 60), 0);
        Due.is("load(199, 0)", x.load(199, 0), 60);
        Due.is("load(1, 9)", x.load(1, 9), 0);

        Due.refused("load(0, -1)", x, () -> x.load(0, -1), MoreHands.OUTSIDE);
        Due.refused("load(0, 61)", x, () -> x.load(0, 61), MoreHands.OUTSIDE);
        Due.is("load(-1, 0)", x.load(-1, 0), MoreHands.OUTSIDE);
        Due.is("load(200, 0)", x.load(200, 0), MoreHands.OUTSIDE);
        Due.is("load(MIN, 0)", x.load(Integer.MIN_VALUE, 0), MoreHands.OUTSIDE);
        Due.is("load(MAX, MAX)", x.load(Integer.MAX_VALUE, Integer.MAX_VALUE), MoreHands.OUTSIDE);

        x.tick(1);
        Due.is("REQUESTS that came", x.now(12), 7);
        Due.refused("load(0, 1) of a TICK that was", x, () -> x.load(0, 1), MoreHands.NOT);
        Due.is("OUTSIDE goes ahead of NOT", x.load(0, 61), MoreHands.OUTSIDE);
        Due.is("NOW can be changed", x.load(1, 8), 9);
        x.tick(1);
        Due.is("REQUESTS that came in two TICKS", x.now(12), 15);

        x.again();
        Due.is("LOADS stay", x.load(0, 7), 7);
        Due.is("LOADS stay", x.load(1, 8), 8);
        x.tick(200);
        Due.is("the last TICK was", x.load(199, 0), MoreHands.NOT);
        Due.is("no TICK 200", x.load(200, 0), MoreHands.OUTSIDE);
        Due.end();
    }
}
