/** How many TICKS may be told; what a TICK does is in Promise07Step..Test. */
public final class Promise07TickTest {
    public static void main(String[] args) {
        insideTheBounds();
        outsideTheBounds();
        notSoManyLeft();
        manyAtOnceAreOneByOne();
        allTicks();
        Due.end();
    }

    private static void insideTheBounds() {
        Due.is("tick(200) of a new one", new MoreHands().tick(200), 200);
        MoreHands x = new MoreHands();
        Due.is("tick(0)", x.tick(0), 0);
        Due.is("tick(1)", x.tick(1), 1);
        Due.is("tick(0) behind it", x.tick(0), 1);
        Due.is("tick(199)", x.tick(199), 200);
        Due.is("tick(0) at the end", x.tick(0), 200);
        Due.is("again()", x.again(), 200);
        Due.is("tick(200) again", x.tick(200), 200);
        Calls.changeNothing("tick(0)", y -> y.tick(0));
    }

    private static void outsideTheBounds() {
        for (int n : Make.outside(0, 200)) {
            Calls.refused("tick(" + n + ")", MoreHands.OUTSIDE, x -> x.tick(n));
        }
    }

    private static void notSoManyLeft() {
        int left = 200 - Scene.MIDDLE;
        Due.is("all that are left", Scene.IN_THE_MIDDLE.make().tick(left), 200);
        Calls.refused(Scene.IN_THE_MIDDLE, "one more than are left", MoreHands.NOT, x -> x.tick(left + 1));
        Calls.refused(Scene.IN_THE_MIDDLE, "tick(200)", MoreHands.NOT, x -> x.tick(200));
        Calls.refused(Scene.IN_THE_MIDDLE, "OUTSIDE ahead of NOT", MoreHands.OUTSIDE, x -> x.tick(201));
        Calls.refused(Scene.AT_THE_END, "tick(1)", MoreHands.NOT, x -> x.tick(1));
        Calls.refused(Scene.AT_THE_END, "tick(200)", MoreHands.NOT, x -> x.tick(200));
        MoreHands x = new MoreHands();
        x.tick(1);
        Due.is("199 are left", x.tick(200), MoreHands.NOT);
        x.tick(198);
        Due.is("one is left", x.tick(2), MoreHands.NOT);
        Due.is("that one", x.tick(1), 200);
    }

    private static void manyAtOnceAreOneByOne() {
        MoreHands x = Scene.IN_THE_MIDDLE.make();
        MoreHands y = Scene.IN_THE_MIDDLE.make();
        x.tick(100);
        for (int t = 0; t < 100; t++) {
            y.tick(1);
        }
        Due.is("100 TICKS at once", x.digest(), y.digest());
        for (int tick = 0; tick < 100; tick++) {
            Due.is("its BILL", x.was(tick, 5), y.was(tick, 5));
        }
    }

    private static void allTicks() {
        MoreHands x = Make.with(Make.LEAST, 0, Make.MOST, 0, Make.PATIENCE, 1, Make.TARGET, 1);
        int sum = 0;
        for (int t = 0; t < 200; t++) {
            int load = 1 + t % 7;
            x.load(t, load);
            sum += load;
        }
        int last = 1 + 199 % 7;
        x.tick(199);
        Due.is("LOST ahead of the last TICK", x.now(4), sum - last);
        x.tick(1);
        Due.is("all are LOST", x.now(4), sum);
        Due.is("all came", x.now(12), sum);
        Due.is("READING of the last TICK", x.now(6), last);
        Due.is("who waited in the last TICK", x.was(199, 0), last);
        Due.is("its BILL", x.was(199, 5), 50 * last);
        Due.is("BILL of all", x.now(5), 50 * sum);
    }
}
