public final class Promise11NowTest {
    public static void main(String[] args) {
        eachOfThem();
        noneYet();
        latestChange();
        wantedAtItsBounds();
        betweenTwoTicks();
        outside();
        Due.end();
    }

    private static void eachOfThem() {
        MoreHands x = Make.with(Make.RATE, 2, Make.PATIENCE, 2, Make.TRIES, 2, Make.MOST, 2);
        Make.loads(x, 12, 3);
        // TICK 0: 12 wait, SERVERS 0 and 1 warm up.
        x.tick(1);
        due(x, 1, 12, 0, 0, 0, 20, 12, 2, 2, 0, 0, 1, 12);
        // TICK 1: 15 wait, 4 are done, 8 of TICK 0 go and will try again.
        x.tick(1);
        due(x, 2, 3, 8, 4, 0, 40, 15, 2, 2, 2, 0, 2, 15);
        // TICK 2: 11 wait, 3 of TICK 1 and one that tries again are done.
        x.tick(1);
        due(x, 3, 7, 0, 8, 0, 60, 11, 2, 2, 2, 0, 3, 15);
        // TICK 3: 4 more are done, 3 have tried twice and are LOST.
        x.tick(1);
        due(x, 4, 0, 0, 12, 3, 230, 7, 2, 2, 2, 0, 4, 15);
        // TICK 4: nobody waits, SERVER 1 begins to drain.
        x.tick(1);
        due(x, 5, 0, 0, 12, 3, 250, 0, 1, 1, 1, 1, 1, 15);
        x.tick(1);
        due(x, 6, 0, 0, 12, 3, 270, 0, 1, 1, 1, 0, 2, 15);
    }

    private static void due(MoreHands x, int... due) {
        for (int what = 0; what < due.length; what++) {
            Due.is("behind TICK " + (due[0] - 1) + ": now(" + what + ")", x.now(what), due[what]);
        }
    }

    private static void noneYet() {
        MoreHands x = Make.with(Make.LEAST, 0);
        Due.is("no TICK was: WANTED", x.now(7), MoreHands.NONE);
        Due.is("no TICK was: latest change", x.now(11), MoreHands.NONE);
        x.tick(0);
        Due.is("tick(0): WANTED", x.now(7), MoreHands.NONE);
        x.tick(1);
        Due.is("WANTED none", x.now(7), 0);
        Due.is("no change was made", x.now(11), MoreHands.NONE);
        x.tick(199);
        Due.is("no change was made in 200 TICKS", x.now(11), MoreHands.NONE);
        x.again();
        Due.is("behind again(): WANTED", x.now(7), MoreHands.NONE);
    }

    private static void latestChange() {
        MoreHands x = Make.with(Make.KIND, 0);
        for (int behind = 1; behind <= 200; behind++) {
            x.tick(1);
            Due.is("TICKS behind the change in TICK 0", x.now(11), behind);
        }
        MoreHands y = Make.with(Make.KIND, 0, Make.LEAST, 0);
        y.plan(3, 2);
        y.tick(3);
        Due.is("none yet", y.now(11), MoreHands.NONE);
        y.tick(1);
        Due.is("one more", y.now(11), 1);
        y.tick(2);
        Make.change(y, Make.MOST, 1);
        Due.is("a SETTING is no change", y.now(11), 3);
        y.tick(1);
        Due.is("one fewer", y.now(11), 1);
        y.tick(1);
        Due.is("to go OUT behind draining is no change", y.now(11), 2);
        y.again();
        Due.is("behind again()", y.now(11), MoreHands.NONE);
        MoreHands z = Make.with(Make.KIND, 0, Make.LEAST, 0);
        z.tick(199);
        Make.change(z, Make.LEAST, 1);
        z.tick(1);
        Due.is("in the last TICK", z.now(11), 1);
    }

    private static void wantedAtItsBounds() {
        MoreHands x = Make.with(Make.TARGET, 1, Make.WARM, 5, Make.LEAST, 0);
        Make.loads(x, 60, 60);
        x.tick(1);
        Due.is("WANTED is told behind its bounds", x.now(7), 12);
        Make.change(x, Make.MOST, 0);
        x.tick(1);
        Due.is("MOST 0", x.now(7), 0);
    }

    private static void betweenTwoTicks() {
        MoreHands x = Make.with(Make.KIND, 0, Make.LEAST, 4, Make.WARM, 0, Make.DRAIN, 5);
        x.tick(1);
        Make.change(x, Make.LEAST, 0, Make.MOST, 2);
        x.tick(1);
        due2(x, 2, 2, 2);
        x.fail(0, false);
        due2(x, 1, 1, 2);
        x.fail(3, false);
        due2(x, 1, 1, 1);
        Due.is("WANTED of the latest TICK", x.now(7), 2);
        x.load(2, 60);
        Due.is("a LOAD has not come yet", x.now(1), 0);
        Due.is("nor is it told", x.now(12), 0);
        Due.is("NOW", x.now(0), 2);
    }

    private static void due2(MoreHands x, int up, int serving, int draining) {
        Due.is("UP", x.now(8), up);
        Due.is("SERVING", x.now(9), serving);
        Due.is("DRAINING", x.now(10), draining);
    }

    private static void outside() {
        for (int what : Make.outside(0, 12)) {
            Calls.refused("now(" + what + ")", MoreHands.OUTSIDE, x -> x.now(what));
        }
        for (int what = 0; what <= 12; what++) {
            int w = what;
            Calls.changeNothing("now(" + w + ")", x -> x.now(w));
        }
    }
}
