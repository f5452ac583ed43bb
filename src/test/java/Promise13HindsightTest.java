public final class Promise13HindsightTest {
    public static void main(String[] args) {
        MoreHands x = new MoreHands();
        Due.is("LEAST in one TICK", x.hindsight(1), 20);
        Due.is("LEAST in 24 TICKS", x.hindsight(24), 250);
        x.setting(7, 0);
        Due.is("no LOAD, LEAST 0", x.hindsight(24), 0);

        x.setting(3, 1);
        x.load(0, 10);
        Due.is("2 at once", x.hindsight(1), 40);
        x.load(1, 10);
        Due.is("2, 2", x.hindsight(2), 60);
        x.load(1, 0);
        x.load(2, 10);
        Due.is("2, 2, 2 or 2, 0, 2", x.hindsight(3), 80);
        x.setting(7, 3);
        Due.is("LEAST 3", x.hindsight(3), 120);
        x.setting(7, 0);
        x.setting(8, 1);
        Due.is("MOST is too few", x.hindsight(1), MoreHands.NONE);
        Due.is("nor later", x.hindsight(24), MoreHands.NONE);
        x.setting(16, 0);
        Due.is("NONE without PRICE too", x.hindsight(1), MoreHands.NONE);
        x.setting(8, 12);
        Due.is("PRICE 0", x.hindsight(3), 0);
        x.setting(16, 10);
        x.setting(17, 0);
        x.load(0, 60);
        Due.is("SPOT PRICE is not asked", x.hindsight(1), 240);

        MoreHands y = new MoreHands();
        y.setting(7, 0);
        y.load(0, 10);
        y.setting(3, 2);
        Due.is("PATIENCE is not at its end in n TICKS", y.hindsight(1), 0);
        Due.is("1, 1", y.hindsight(2), 30);
        y.setting(3, 3);
        Due.is("none need be done yet", y.hindsight(2), 0);
        Due.is("1, 1 of three TICKS", y.hindsight(3), 30);
        y.load(1, 60);
        y.setting(2, 20);
        Due.is("not done ahead of its coming", y.hindsight(4), 10 * (4 + 1));
        Due.is("what is past is asked too", afterTicks(y), 10 * (4 + 1));

        bounds();
        refusals(x);
        Due.end();
    }

    private static void bounds() {
        MoreHands x = new MoreHands();
        x.setting(7, 0);
        x.setting(3, 1);
        x.load(0, 6);
        Due.is("not one may be left", x.hindsight(1), 40);

        MoreHands y = new MoreHands();
        y.setting(7, 0);
        y.setting(3, 10);
        y.setting(2, 20);
        for (int t = 0; t < 24; t++) {
            y.load(t, 60);
        }
        Due.is("540 may be left behind 9 TICKS", y.hindsight(9), 0);
        Due.is("60 must be done in 10 TICKS", y.hindsight(10), 40);
        y.setting(8, 2);
        Due.is("900 must be done in 24 TICKS", y.hindsight(24), 10 * (45 + 2));
        y.setting(8, 1);
        Due.is("480 are too few", y.hindsight(24), MoreHands.NONE);
        Due.is("540 must be done in 18 TICKS, 360 are too few", y.hindsight(18), MoreHands.NONE);
        Due.is("240 must be done in 13 TICKS", y.hindsight(13), 10 * (12 + 1));
    }

    private static int afterTicks(MoreHands y) {
        y.tick(50);
        y.plan(0, 12);
        y.lose(60, true);
        return y.hindsight(4);
    }

    private static void refusals(MoreHands x) {
        for (int n : new int[] {0, -1, 25, Integer.MIN_VALUE, Integer.MAX_VALUE}) {
            Due.is("hindsight(" + n + ")", x.hindsight(n), MoreHands.OUTSIDE);
        }
        Due.refused("hindsight(0)", x, () -> x.hindsight(0), MoreHands.OUTSIDE);
        Due.refused("hindsight(25)", x, () -> x.hindsight(25), MoreHands.OUTSIDE);
        x.tick(7);
        String before = Seen.of(x);
        x.hindsight(24);
        Due.same("hindsight(24) changes nothing", Seen.of(x), before);
    }
}
