public final class Promise06LoseTest {
    public static void main(String[] args) {
        insideTheBounds();
        outsideTheBounds();
        theTickWas();
        theMeterIsLost();
        lostMetersStay();
        Due.end();
    }

    private static void insideTheBounds() {
        MoreHands x = new MoreHands();
        for (int tick : new int[] {0, 199}) {
            Due.is("not told yet", x.lose(tick, true), 0);
            Due.is("told", x.lose(tick, true), 1);
            Due.is("told twice", x.lose(tick, false), 1);
            Due.is("taken back", x.lose(tick, false), 0);
            Due.is("taken back twice", x.lose(tick, true), 0);
        }
        for (int tick = 0; tick < 200; tick++) {
            Due.is("lose(" + tick + ", false)", x.lose(tick, false), tick == 0 || tick == 199 ? 1 : 0);
        }
    }

    private static void outsideTheBounds() {
        for (int tick : Make.outside(0, 199)) {
            Calls.refused("lose(" + tick + ", true)", MoreHands.OUTSIDE, x -> x.lose(tick, true));
            Calls.refused("lose(" + tick + ", false)", MoreHands.OUTSIDE, x -> x.lose(tick, false));
        }
    }

    private static void theTickWas() {
        int latest = Scene.MIDDLE - 1;
        Calls.refused(Scene.IN_THE_MIDDLE, "lose(0, true)", MoreHands.NOT, x -> x.lose(0, true));
        Calls.refused(Scene.IN_THE_MIDDLE, "lose(3, false)", MoreHands.NOT, x -> x.lose(3, false));
        Calls.refused(Scene.IN_THE_MIDDLE, "lose of the latest", MoreHands.NOT, x -> x.lose(latest, false));
        Calls.refused(Scene.AT_THE_END, "lose(199, false)", MoreHands.NOT, x -> x.lose(199, false));
        Calls.refused(Scene.AT_THE_END, "lose(198, true)", MoreHands.NOT, x -> x.lose(198, true));
        Due.is("NOW can be told", Scene.IN_THE_MIDDLE.make().lose(Scene.MIDDLE, false), 1);
        MoreHands y = new MoreHands();
        y.tick(1);
        Due.is("one TICK was: TICK 0", y.lose(0, true), MoreHands.NOT);
        Due.is("one TICK was: TICK 1", y.lose(1, true), 0);
        y.tick(198);
        Due.is("199 TICKS were: TICK 198", y.lose(198, true), MoreHands.NOT);
        Due.is("199 TICKS were: TICK 199", y.lose(199, true), 0);
        y.again();
        Due.is("behind again(): TICK 0", y.lose(0, true), 0);
    }

    private static void theMeterIsLost() {
        MoreHands x = new MoreHands();
        x.load(0, 20);
        x.load(1, 60);
        x.lose(1, true);
        x.tick(1);
        Due.is("READING", x.now(6), 20);
        x.tick(1);
        Due.is("READING stays as it was", x.now(6), 20);
        Due.is("WANTED is by it", x.now(7), 4);
        Due.is("how many waited all the same", x.was(1, 0), 80);

        MoreHands y = new MoreHands();
        y.load(0, 20);
        y.lose(0, true);
        y.lose(0, false);
        y.tick(1);
        Due.is("told to be lost, and not: READING", y.now(6), 20);

        MoreHands z = new MoreHands();
        z.load(0, 20);
        z.load(199, 10);
        z.lose(0, true);
        z.lose(199, true);
        z.tick(200);
        Due.is("lost in the last TICK: READING", z.now(6), 0);
    }

    private static void lostMetersStay() {
        MoreHands x = new MoreHands();
        x.lose(1, true);
        x.load(1, 60);
        x.tick(3);
        x.again();
        x.tick(2);
        Due.is("lost again", x.now(6), 0);
        x.again();
        Due.is("LOST METERS stay", x.lose(1, true), 1);
        Due.is("the others too", x.lose(0, false), 0);
    }
}
