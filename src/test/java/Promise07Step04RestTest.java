/** 4. REST between changes, and what is done all the same. */
public final class Promise07Step04RestTest {
    public static void main(String[] args) {
        everyRest();
        restNever();
        noChangeNoRest();
        broughtUpToPlan();
        broughtUpToLeast();
        notBeyondTheGreaterOne();
        noneAtRest();
        notDownToMost();
        failingIsNoChange();
        asManyAsAreUpIsNoChange();
        againEndsRest();
        restIsChanged();
        Due.end();
    }

    /** Each TICK of which the number is even wants one SERVER, each other one two. */
    private static MoreHands upAndDown(int rest) {
        MoreHands x = Make.with(Make.REST, rest, Make.LEAST, 0, Make.TARGET, 1, Make.PATIENCE, 1, Make.WARM, 0,
            Make.DRAIN, 0);
        for (int tick = 0; tick < 60; tick++) {
            x.load(tick, 1 + tick % 2);
        }
        return x;
    }

    private static void everyRest() {
        for (int rest = 0; rest <= 10; rest++) {
            MoreHands x = upAndDown(rest);
            int up = 0;
            int latest = -100;
            for (int tick = 0; tick < 40; tick++) {
                x.tick(1);
                int wanted = 1 + tick % 2;
                if (wanted != up && tick - latest >= rest) {
                    up = wanted;
                    latest = tick;
                }
                Due.is("REST " + rest + ", TICK " + tick + ": WANTED", x.now(7), wanted);
                Due.is("REST " + rest + ", TICK " + tick + ": UP", x.now(8), up);
                Due.is("REST " + rest + ", TICK " + tick + ": latest change", x.now(11), tick + 1 - latest);
            }
        }
        MoreHands x = Make.with(Make.REST, 10, Make.LEAST, 0);
        Make.loads(x, 5, 60, 60, 60, 60, 60, 60, 60, 60, 60, 60);
        x.tick(10);
        Due.is("nine TICKS ago", x.was(9, 3), 1);
        x.tick(1);
        Due.is("ten TICKS ago", x.was(10, 3), 12);
    }

    private static void restNever() {
        MoreHands x = upAndDown(0);
        for (int tick = 0; tick < 20; tick++) {
            x.tick(1);
            Due.is("a change in each TICK", x.now(11), 1);
        }
        MoreHands y = upAndDown(1);
        for (int tick = 0; tick < 20; tick++) {
            y.tick(1);
            Due.is("REST 1: a change one TICK ago is not less than one", y.now(11), 1);
        }
    }

    private static void noChangeNoRest() {
        MoreHands x = Make.with(Make.REST, 10, Make.LEAST, 0);
        Make.loads(x, 0, 0, 5);
        x.tick(2);
        Due.is("none was made", x.now(11), MoreHands.NONE);
        x.tick(1);
        Due.is("the first one is made at once", x.now(8), 1);
        MoreHands y = Make.with(Make.REST, 10, Make.LEAST, 0);
        Make.loads(y, 5);
        y.tick(1);
        Due.is("in TICK 0 too", y.now(8), 1);
    }

    private static void broughtUpToPlan() {
        MoreHands x = Make.with(Make.REST, 10, Make.TARGET, 1, Make.WARM, 0);
        x.plan(2, 5);
        x.plan(3, 12);
        Make.loads(x, 2, 12, 12, 0, 60);
        x.tick(1);
        Due.is("UP", x.now(8), 2);
        x.tick(1);
        Due.is("at rest UP stays", x.now(8), 2);
        Due.is("no change", x.now(11), 2);
        x.tick(1);
        Due.is("at rest brought up to PLAN", x.now(8), 5);
        Due.is("but not to WANTED", x.now(7), 12);
        Due.is("that is a change", x.now(11), 1);
        Make.change(x, Make.MOST, 7);
        x.tick(1);
        Due.is("brought up to MOST, below PLAN", x.now(8), 7);
        Due.is("WANTED", x.now(7), 7);
    }

    private static void broughtUpToLeast() {
        MoreHands x = Make.with(Make.REST, 10, Make.LEAST, 3);
        x.tick(1);
        x.fail(1, false);
        x.tick(1);
        Due.is("at rest brought up to LEAST", x.now(8), 3);
        Due.is("by the one that failed", x.server(1, 0), 1);
        Due.is("that is a change", x.now(11), 1);
        x.fail(0, false);
        x.fail(1, false);
        x.fail(2, false);
        x.tick(1);
        Due.is("all of them", x.now(8), 3);
    }

    private static void notBeyondTheGreaterOne() {
        for (int plan = 0; plan <= 6; plan += 3) {
            for (int least = 0; least <= 6; least += 2) {
                MoreHands x = Make.with(Make.REST, 10, Make.LEAST, least, Make.TARGET, 1);
                x.plan(1, plan);
                Make.loads(x, 2, 60);
                x.tick(1);
                int up = Math.max(2, least);
                Due.is("UP ahead", x.now(8), up);
                x.tick(1);
                Due.is("PLAN " + plan + ", LEAST " + least + ": UP", x.now(8), Math.max(plan, up));
                Due.is("PLAN " + plan + ", LEAST " + least + ": a change", x.now(11), plan > up ? 1 : 2);
            }
        }
    }

    private static void noneAtRest() {
        MoreHands x = Make.with(Make.REST, 5, Make.LEAST, 0, Make.WARM, 0);
        x.plan(9, 1);
        Make.loads(x, 5, 0, 0, 0, 0, 0, 60, 60, 60, 60);
        int[] up = {1, 1, 1, 1, 1, 0, 0, 0, 0, 1, 1, 1, 1, 1};
        for (int tick = 0; tick < up.length; tick++) {
            x.tick(1);
            Due.is("none is UP at rest, TICK " + tick, x.now(8), up[tick]);
        }
    }

    private static void notDownToMost() {
        MoreHands x = Make.with(Make.REST, 3, Make.LEAST, 6);
        x.tick(1);
        Make.change(x, Make.LEAST, 0, Make.MOST, 2);
        x.tick(1);
        Due.is("at rest not brought down to MOST", x.now(8), 6);
        Due.is("WANTED is at most MOST", x.now(7), 0);
        x.plan(2, 4);
        x.tick(1);
        Due.is("nor to PLAN", x.now(8), 6);
        Due.is("WANTED by PLAN, at most MOST", x.now(7), 2);
        x.tick(1);
        Due.is("behind the rest", x.now(8), 0);
    }

    private static void failingIsNoChange() {
        MoreHands x = Make.with(Make.REST, 10, Make.LEAST, 0, Make.KIND, 0);
        x.plan(0, 2);
        x.tick(1);
        x.tick(10);
        Due.is("latest change", x.now(11), 11);
        x.fail(0, false);
        Due.is("to FAIL is no change", x.now(11), 11);
        Make.change(x, Make.KIND, 1);
        Make.loads(x, 60);
        x.tick(1);
        Due.is("so there is nothing to rest from", x.now(8), 12);
    }

    private static void asManyAsAreUpIsNoChange() {
        MoreHands x = Make.with(Make.REST, 10, Make.KIND, 0);
        x.tick(12);
        Due.is("KIND 0 changes nothing", x.now(11), 12);
        Make.change(x, Make.KIND, 1);
        Make.loads(x, 60);
        x.tick(1);
        Due.is("so there is nothing to rest from", x.now(8), 12);
    }

    private static void againEndsRest() {
        MoreHands x = Make.with(Make.REST, 10);
        Make.loads(x, 5, 60);
        x.tick(1);
        x.again();
        x.load(0, 60);
        x.tick(1);
        Due.is("from the beginning no change was made", x.now(8), 12);
    }

    private static void restIsChanged() {
        MoreHands x = Make.with(Make.REST, 0, Make.LEAST, 0);
        Make.loads(x, 5, 60, 60, 60);
        x.tick(1);
        Make.change(x, Make.REST, 2);
        x.tick(1);
        Due.is("REST of now is asked", x.now(8), 1);
        Make.change(x, Make.REST, 10);
        x.tick(1);
        Due.is("REST made longer", x.now(8), 1);
        Make.change(x, Make.REST, 3);
        x.tick(1);
        Due.is("REST made shorter", x.now(8), 12);
    }
}
