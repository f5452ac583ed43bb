public final class Promise11NowTest {
    public static void main(String[] args) {
        MoreHands x = new MoreHands();
        x.setting(2, 2);
        x.setting(3, 2);
        x.setting(4, 2);
        x.setting(8, 2);
        x.load(0, 12);
        x.load(1, 3);
        // TICK 0: 12 wait, SERVERS 0 and 1 warm up.
        x.tick(1);
        due(x, 1, 12, 0, 0, 0, 20, 12, 2, 2, 0, 0, 1, 12);
        // TICK 1: 15 wait, 4 are done, 8 of TICK 0 go and will try again.
        x.tick(1);
        due(x, 2, 3, 8, 4, 0, 40, 15, 2, 2, 2, 0, 2, 15);
        // TICK 2: 11 wait, 3 of TICK 1 and one that tries again are done.
        x.tick(1);
        due(x, 3, 7, 0, 8, 0, 60, 11, 2, 2, 2, 0, 3, 15);
        // TICK 3: 4 more are done, 3 have tried twice and are LOST.
        x.tick(1);
        due(x, 4, 0, 0, 12, 3, 230, 7, 2, 2, 2, 0, 4, 15);
        // TICK 4: nobody waits, SERVER 1 begins to drain.
        x.tick(1);
        due(x, 5, 0, 0, 12, 3, 250, 0, 1, 1, 1, 1, 1, 15);
        x.tick(1);
        due(x, 6, 0, 0, 12, 3, 270, 0, 1, 1, 1, 0, 2, 15);

        for (int what : new int[] {-1, 13, Integer.MIN_VALUE, Integer.MAX_VALUE}) {
            Due.is("now(" + what + ")", x.now(what), MoreHands.OUTSIDE);
        }
        Due.refused("now(13)", x, () -> x.now(13), MoreHands.OUTSIDE);
        Due.refused("now(-1)", x, () -> x.now(-1), MoreHands.OUTSIDE);

        MoreHands y = new MoreHands();
        y.setting(7, 0);
        y.tick(5);
        Due.is("no change was made", y.now(11), MoreHands.NONE);
        Due.is("WANTED none", y.now(7), 0);
        Due.end();
    }

    private static void due(MoreHands x, int... due) {
        for (int what = 0; what < due.length; what++) {
            Due.is("behind TICK " + (due[0] - 1) + ": now(" + what + ")", x.now(what), due[what]);
        }
    }
}
