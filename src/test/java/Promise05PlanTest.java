public final class Promise05PlanTest {
    public static void main(String[] args) {
        insideTheBounds();
        outsideTheBounds();
        theHourOfATick();
        atLeastAndAtMost();
        planStays();
        Due.end();
    }

    private static void insideTheBounds() {
        MoreHands x = new MoreHands();
        Due.is("plan(0, 12)", x.plan(0, 12), 0);
        Due.is("plan(0, 0)", x.plan(0, 0), 12);
        Due.is("plan(23, 12)", x.plan(23, 12), 0);
        Due.is("plan(23, 4)", x.plan(23, 4), 12);
        Due.is("plan(23, 4) once more", x.plan(23, 4), 4);
        for (int hour = 0; hour < 24; hour++) {
            x.plan(hour, hour % 13);
        }
        for (int hour = 23; hour >= 0; hour--) {
            Due.is("plan(" + hour + ", 0)", x.plan(hour, 0), hour % 13);
        }
        Due.is("in the middle", Scene.IN_THE_MIDDLE.make().plan(23, 0), 12);
        Due.is("at the end", Scene.AT_THE_END.make().plan(7, 12), 4);
    }

    private static void outsideTheBounds() {
        for (int v : Make.outside(0, 12)) {
            Calls.refused("plan(0, " + v + ")", MoreHands.OUTSIDE, x -> x.plan(0, v));
            Calls.refused("plan(23, " + v + ")", MoreHands.OUTSIDE, x -> x.plan(23, v));
        }
        for (int hour : Make.outside(0, 23)) {
            Calls.refused("plan(" + hour + ", 0)", MoreHands.OUTSIDE, x -> x.plan(hour, 0));
            Calls.refused("plan(" + hour + ", 12)", MoreHands.OUTSIDE, x -> x.plan(hour, 12));
            Calls.refused("plan(" + hour + ", 13)", MoreHands.OUTSIDE, x -> x.plan(hour, 13));
        }
    }

    private static void theHourOfATick() {
        MoreHands x = new MoreHands();
        x.plan(0, 2);
        x.plan(7, 5);
        x.plan(23, 4);
        x.tick(200);
        for (int tick = 0; tick < 200; tick++) {
            int hour = tick % 24;
            int due = hour == 0 ? 2 : hour == 7 ? 5 : hour == 23 ? 4 : 1;
            Due.is("WANTED in TICK " + tick, x.was(tick, 4), due);
            Due.is("UP in TICK " + tick, x.was(tick, 3), due);
        }
    }

    private static void atLeastAndAtMost() {
        MoreHands x = Make.with(Make.LEAST, 3, Make.MOST, 6);
        x.plan(1, 2);
        x.plan(2, 3);
        x.plan(3, 4);
        x.plan(4, 6);
        x.plan(5, 7);
        x.plan(6, 12);
        x.tick(7);
        int[] due = {3, 3, 3, 4, 6, 6, 6};
        for (int tick = 0; tick < due.length; tick++) {
            Due.is("UP in TICK " + tick, x.was(tick, 3), due[tick]);
        }
        MoreHands y = Make.with(Make.LEAST, 0, Make.MOST, 0);
        y.plan(0, 12);
        y.tick(1);
        Due.is("PLAN 12, MOST 0", y.now(8), 0);
        MoreHands z = new MoreHands();
        z.plan(0, 12);
        z.tick(1);
        Due.is("PLAN 12", z.now(8), 12);
    }

    private static void planStays() {
        MoreHands x = new MoreHands();
        x.plan(0, 9);
        x.plan(23, 4);
        x.tick(30);
        x.again();
        Due.is("PLAN of hour 0 stays", x.plan(0, 0), 9);
        Due.is("PLAN of hour 23 stays", x.plan(23, 0), 4);
    }
}
