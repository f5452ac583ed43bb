/** 1. REQUESTS come and wait in THE QUEUE. With one SERVER and a RATE it is seen which of them are the first. */
public final class Promise07Step01ComeTest {
    public static void main(String[] args) {
        nobodyComes();
        asManyAsMayCome();
        newOnesBehindThoseThere();
        thoseThatTryAgainAheadOfNewOnes();
        thoseThatTryAgainBehindThoseThere();
        inTheOrderInWhichTheyWent();
        theLongestQueue();
        Due.end();
    }

    /** Nobody serves till oneServes(). */
    private static MoreHands idle(int patience, int tries, int rate) {
        return Make.with(Make.KIND, 0, Make.LEAST, 0, Make.MOST, 0, Make.WARM, 0, Make.PATIENCE, patience,
            Make.TRIES, tries, Make.RATE, rate);
    }

    private static void oneServes(MoreHands x) {
        Make.change(x, Make.MOST, 1, Make.LEAST, 1);
        x.tick(1);
    }

    private static void nobodyComes() {
        MoreHands x = idle(3, 4, 5);
        x.tick(20);
        Due.is("nobody came", x.now(12), 0);
        Due.is("nobody waits", x.now(1), 0);
        Due.is("nobody tries again", x.now(2), 0);
        oneServes(x);
        Due.is("nothing is done", x.now(3), 0);
    }

    private static void asManyAsMayCome() {
        MoreHands x = idle(10, 1, 5);
        Make.loads(x, 60, 60, 60);
        x.tick(3);
        Due.is("180 wait", x.now(1), 180);
        Due.is("60 waited", x.was(0, 0), 60);
        Due.is("180 came", x.now(12), 180);
    }

    private static void newOnesBehindThoseThere() {
        MoreHands x = idle(2, 1, 4);
        Make.loads(x, 4, 6);
        x.tick(1);
        oneServes(x);
        Due.is("those there are done first: none is LOST", x.now(4), 0);
        Due.is("the new ones wait", x.now(1), 6);
        MoreHands y = idle(2, 1, 5);
        Make.loads(y, 6, 6);
        y.tick(1);
        oneServes(y);
        Due.is("one of those there is left and LOST", y.now(4), 1);
        Due.is("none of the new ones is done", y.now(1), 6);
    }

    private static void thoseThatTryAgainAheadOfNewOnes() {
        MoreHands x = idle(1, 2, 4);
        Make.loads(x, 4, 7);
        x.tick(1);
        Due.is("four will try again", x.now(2), 4);
        oneServes(x);
        Due.is("they are done: none is LOST", x.now(4), 0);
        Due.is("the new ones try again", x.now(2), 7);
        MoreHands y = idle(1, 2, 3);
        Make.loads(y, 4, 7);
        y.tick(1);
        oneServes(y);
        Due.is("one of them is left and LOST", y.now(4), 1);
        Due.is("all the new ones try again", y.now(2), 7);
    }

    private static void thoseThatTryAgainBehindThoseThere() {
        // In TICK 2 wait: 4 of TICK 1, then 3 of TICK 0 that try again.
        MoreHands x = idle(2, 2, 4);
        Make.loads(x, 3, 4, 0);
        x.tick(2);
        Due.is("three will try again", x.now(2), 3);
        oneServes(x);
        Due.is("those there are done: none goes", x.now(2), 0);
        Due.is("those that try again wait", x.now(1), 3);
        MoreHands y = idle(2, 2, 3);
        Make.loads(y, 3, 4, 0);
        y.tick(2);
        oneServes(y);
        Due.is("one of those there is left and goes", y.now(2), 1);
    }

    private static void inTheOrderInWhichTheyWent() {
        // In TICK 2 wait: 3 of TICK 0 in their third try, then 5 of TICK 1 in their second, then 6.
        for (int rate = 1; rate <= 9; rate++) {
            MoreHands x = idle(1, 3, rate);
            Make.loads(x, 3, 5, 6);
            x.tick(2);
            Due.is("eight will try again", x.now(2), 8);
            oneServes(x);
            Due.is("the first that went are LOST, RATE " + rate, x.now(4), Math.max(0, 3 - rate));
            Due.is("the others try again, RATE " + rate, x.now(2), 11 - Math.max(0, rate - 3));
        }
        // PATIENCE made less: in TICK 2 wait 5 of TICK 1, then 3 of TICK 0 in their second try, and all of them go.
        for (int rate = 1; rate <= 7; rate++) {
            MoreHands x = idle(2, 3, rate);
            Make.loads(x, 3, 5, 0, 6);
            x.tick(2);
            Make.change(x, Make.PATIENCE, 1);
            x.tick(1);
            Due.is("eight will try again", x.now(2), 8);
            oneServes(x);
            Due.is("the first that waited went first, RATE " + rate, x.now(4), 3 - Math.max(0, rate - 5));
            Due.is("the others try again, RATE " + rate, x.now(2), 6 + Math.max(0, 5 - rate));
        }
    }

    private static void theLongestQueue() {
        MoreHands x = idle(10, 4, 5);
        for (int tick = 0; tick < 200; tick++) {
            x.load(tick, 60);
        }
        x.tick(39);
        Due.is("of 39 TICKS 10 wait, and those of 29 in later tries", x.now(1) + x.now(2), 39 * 60);
        Due.is("none is LOST", x.now(4), 0);
        x.tick(1);
        Due.is("TICK 0 has tried four times", x.now(4), 60);
        x.tick(160);
        Due.is("LOST at the end", x.now(4), 161 * 60);
        Due.is("the others are there", x.now(1) + x.now(2), 39 * 60);
        Due.is("all came, tries told once", x.now(12), 12000);
        Due.is("BILL", x.now(5), 161 * 60 * 50);
    }
}
