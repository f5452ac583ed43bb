public final class Promise04LoadTest {
    public static void main(String[] args) {
        insideTheBounds();
        outsideTheBounds();
        theTickWas();
        whatComes();
        loadsStay();
        Due.end();
    }

    private static void insideTheBounds() {
        MoreHands x = new MoreHands();
        Due.is("load(0, 60)", x.load(0, 60), 0);
        Due.is("load(0, 7)", x.load(0, 7), 60);
        Due.is("load(0, 7) once more", x.load(0, 7), 7);
        Due.is("load(199, 60)", x.load(199, 60), 0);
        Due.is("load(199, 0)", x.load(199, 0), 60);
        Due.is("load(199, 1)", x.load(199, 1), 0);
        MoreHands y = new MoreHands();
        for (int tick = 0; tick < 200; tick++) {
            Due.is("load(" + tick + ", ..)", y.load(tick, tick % 61), 0);
        }
        for (int tick = 199; tick >= 0; tick--) {
            Due.is("load(" + tick + ", 0)", y.load(tick, 0), tick % 61);
        }
    }

    private static void outsideTheBounds() {
        for (int v : Make.outside(0, 60)) {
            Calls.refused("load(0, " + v + ")", MoreHands.OUTSIDE, x -> x.load(0, v));
            Calls.refused("load(199, " + v + ")", MoreHands.OUTSIDE, x -> x.load(199, v));
        }
        for (int tick : Make.outside(0, 199)) {
            Calls.refused("load(" + tick + ", 0)", MoreHands.OUTSIDE, x -> x.load(tick, 0));
            Calls.refused("load(" + tick + ", 60)", MoreHands.OUTSIDE, x -> x.load(tick, 60));
            Calls.refused("load(" + tick + ", 61)", MoreHands.OUTSIDE, x -> x.load(tick, 61));
            Calls.refused("load(" + tick + ", MIN)", MoreHands.OUTSIDE, x -> x.load(tick, Make.MIN_INT));
        }
    }

    private static void theTickWas() {
        int latest = Scene.MIDDLE - 1;
        Calls.refused(Scene.IN_THE_MIDDLE, "load(0, 1)", MoreHands.NOT, x -> x.load(0, 1));
        Calls.refused(Scene.IN_THE_MIDDLE, "load(0, 60)", MoreHands.NOT, x -> x.load(0, 60));
        Calls.refused(Scene.IN_THE_MIDDLE, "load of the latest", MoreHands.NOT, x -> x.load(latest, 5));
        Calls.refused(Scene.AT_THE_END, "load(199, 5)", MoreHands.NOT, x -> x.load(199, 5));
        Calls.refused(Scene.AT_THE_END, "load(0, 0)", MoreHands.NOT, x -> x.load(0, 0));
        Calls.refused(Scene.AT_THE_END, "OUTSIDE ahead of NOT", MoreHands.OUTSIDE, x -> x.load(0, 61));
        MoreHands x = Scene.IN_THE_MIDDLE.make();
        Due.is("LOAD of NOW can be changed", x.load(Scene.MIDDLE, 1), Scene.MIDDLE * 7 % 31);
        Due.is("it is changed", x.load(Scene.MIDDLE, 2), 1);
        MoreHands y = new MoreHands();
        Due.is("no TICK was: TICK 0", y.load(0, 3), 0);
        y.tick(1);
        Due.is("one TICK was: TICK 0", y.load(0, 3), MoreHands.NOT);
        Due.is("one TICK was: TICK 1", y.load(1, 3), 0);
        y.tick(198);
        Due.is("199 TICKS were: TICK 198", y.load(198, 3), MoreHands.NOT);
        Due.is("199 TICKS were: TICK 199", y.load(199, 3), 0);
        y.again();
        Due.is("behind again(): TICK 0", y.load(0, 4), 3);
    }

    private static void whatComes() {
        MoreHands x = new MoreHands();
        x.load(0, 60);
        x.load(1, 9);
        x.load(199, 2);
        x.tick(1);
        Due.is("REQUESTS that came", x.now(12), 60);
        x.load(1, 8);
        x.tick(1);
        Due.is("REQUESTS that came in two TICKS", x.now(12), 68);
        x.tick(197);
        Due.is("nobody came then", x.now(12), 68);
        x.tick(1);
        Due.is("those of the last TICK came", x.now(12), 70);
    }

    private static void loadsStay() {
        MoreHands x = new MoreHands();
        x.load(0, 7);
        x.load(1, 8);
        x.tick(2);
        x.again();
        Due.is("LOAD of TICK 0 stays", x.load(0, 0), 7);
        Due.is("LOAD of TICK 1 stays", x.load(1, 0), 8);
    }
}
