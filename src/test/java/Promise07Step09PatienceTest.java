/** 9. REQUESTS that have waited PATIENCE TICKS go, try again or are LOST. */
public final class Promise07Step09PatienceTest {
    public static void main(String[] args) {
        everyPatience();
        everyTries();
        doneInTheLastTick();
        someOfThemAreDone();
        eachTickHasItsOwnEnd();
        patienceIsChanged();
        triesAreChanged();
        whoTriesAgain();
        theLastTick();
        Due.end();
    }

    private static MoreHands idle(int patience, int tries) {
        return Make.with(Make.KIND, 0, Make.LEAST, 0, Make.MOST, 0, Make.WARM, 0, Make.PATIENCE, patience,
            Make.TRIES, tries);
    }

    private static void everyPatience() {
        for (int patience = 1; patience <= 10; patience++) {
            MoreHands x = idle(patience, 1);
            Make.loads(x, 9);
            for (int tick = 0; tick < patience - 1; tick++) {
                x.tick(1);
                Due.is("PATIENCE " + patience + ", TICK " + tick + ": wait", x.now(1), 9);
                Due.is("PATIENCE " + patience + ", TICK " + tick + ": LOST", x.now(4), 0);
            }
            x.tick(1);
            Due.is("PATIENCE " + patience + ": LOST", x.now(4), 9);
            Due.is("PATIENCE " + patience + ": in this TICK", x.was(patience - 1, 2), 9);
            Due.is("PATIENCE " + patience + ": nobody waits", x.now(1), 0);
            Due.is("PATIENCE " + patience + ": nobody tries again", x.now(2), 0);
        }
    }

    private static void everyTries() {
        for (int tries = 1; tries <= 4; tries++) {
            for (int patience = 1; patience <= 10; patience += 3) {
                MoreHands x = idle(patience, tries);
                Make.loads(x, 5);
                for (int tick = 1; tick < tries * patience; tick++) {
                    x.tick(1);
                    boolean goes = tick % patience == 0;
                    Due.is("TICK " + tick + " of " + tries + " * " + patience + ": wait", x.now(1), goes ? 0 : 5);
                    Due.is("TICK " + tick + " of " + tries + " * " + patience + ": again", x.now(2), goes ? 5 : 0);
                    Due.is("TICK " + tick + " of " + tries + " * " + patience + ": LOST", x.now(4), 0);
                    Due.is("TICK " + tick + ": waited", x.was(tick - 1, 0), 5);
                }
                x.tick(1);
                Due.is("TRIES " + tries + ", PATIENCE " + patience + ": LOST", x.now(4), 5);
                Due.is("tries are told once", x.now(12), 5);
            }
        }
    }

    private static void doneInTheLastTick() {
        for (int patience = 1; patience <= 10; patience++) {
            MoreHands x = idle(patience, 1);
            Make.loads(x, 9);
            x.tick(patience - 1);
            Make.change(x, Make.MOST, 12, Make.LEAST, 2);
            x.tick(1);
            Due.is("PATIENCE " + patience + ": done in the last TICK", x.now(3), 9);
            Due.is("PATIENCE " + patience + ": none LOST", x.now(4), 0);
        }
    }

    private static void someOfThemAreDone() {
        MoreHands x = idle(1, 2);
        Make.loads(x, 9);
        Make.change(x, Make.MOST, 1, Make.LEAST, 1);
        x.tick(1);
        Due.is("done", x.now(3), 5);
        Due.is("the others try again", x.now(2), 4);
        Make.change(x, Make.RATE, 3);
        x.tick(1);
        Due.is("done", x.now(3), 8);
        Due.is("one is LOST", x.now(4), 1);
    }

    private static void eachTickHasItsOwnEnd() {
        MoreHands x = idle(3, 1);
        Make.loads(x, 1, 2, 4, 8, 16, 32);
        int[] waits = {1, 3, 6, 12, 24, 48, 32, 0};
        int[] lost = {0, 0, 1, 3, 7, 15, 31, 63};
        for (int tick = 0; tick < waits.length; tick++) {
            x.tick(1);
            Due.is("wait behind TICK " + tick, x.now(1), waits[tick]);
            Due.is("LOST behind TICK " + tick, x.now(4), lost[tick]);
            Due.is("LOST in TICK " + tick, x.was(tick, 2), lost[tick] - (tick > 0 ? lost[tick - 1] : 0));
        }
    }

    private static void patienceIsChanged() {
        MoreHands x = idle(10, 1);
        Make.loads(x, 10, 3, 0, 0, 2);
        x.tick(4);
        Make.change(x, Make.PATIENCE, 2);
        x.tick(1);
        Due.is("PATIENCE made less: LOST", x.now(4), 13);
        Due.is("who came now waits", x.now(1), 2);
        MoreHands y = idle(2, 1);
        Make.loads(y, 6);
        y.tick(1);
        Make.change(y, Make.PATIENCE, 3);
        y.tick(1);
        Due.is("PATIENCE made more: not yet", y.now(1), 6);
        y.tick(1);
        Due.is("PATIENCE made more: LOST", y.now(4), 6);
    }

    private static void triesAreChanged() {
        MoreHands x = idle(2, 4);
        Make.loads(x, 5);
        x.tick(5);
        Make.change(x, Make.TRIES, 1);
        x.tick(1);
        Due.is("TRIES made less", x.now(4), 5);
        MoreHands y = idle(1, 1);
        Make.loads(y, 5);
        Make.change(y, Make.TRIES, 2);
        y.tick(1);
        Due.is("tried once of two", y.now(2), 5);
        Make.change(y, Make.TRIES, 1);
        y.tick(1);
        Due.is("they came again and are LOST", y.was(1, 2), 5);
        Due.is("they waited", y.was(1, 0), 5);
    }

    private static void whoTriesAgain() {
        MoreHands x = idle(1, 2);
        Make.loads(x, 4, 7, 0);
        x.tick(1);
        Due.is("will try again", x.now(2), 4);
        Due.is("do not wait", x.now(1), 0);
        Due.is("are not LOST", x.now(4), 0);
        Due.is("cost no PENALTY", x.now(5), 0);
        x.tick(1);
        Due.is("wait with the new ones", x.was(1, 0), 11);
        Due.is("tried twice: LOST", x.now(4), 4);
        Due.is("tried once", x.now(2), 7);
        x.tick(1);
        Due.is("all are LOST", x.now(4), 11);
        Due.is("tries are told once", x.now(12), 11);
        Due.is("nobody is left", x.now(1) + x.now(2), 0);
    }

    private static void theLastTick() {
        MoreHands x = idle(2, 2);
        x.load(198, 3);
        x.load(199, 4);
        x.tick(200);
        Due.is("of TICK 199 wait", x.now(1), 4);
        Due.is("of TICK 198 will try again", x.now(2), 3);
        Due.is("LOST", x.now(4), 0);
        x.again();
        Due.is("nobody waits behind again()", x.now(1), 0);
        Due.is("nor tries again", x.now(2), 0);
        x.tick(1);
        Due.is("nobody came over", x.was(0, 0), 0);
    }
}
