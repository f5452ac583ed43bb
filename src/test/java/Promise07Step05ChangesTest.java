/** 5. CHANGES: which SERVERS begin to warm up, go OUT or begin to drain, and as far as there are such. */
public final class Promise07Step05ChangesTest {
    private static final int OUT = 0, WARMING = 1, SERVING = 2, DRAINING = 3;

    public static void main(String[] args) {
        theLeastOutOnesBegin();
        allTwelve();
        outOnesBetweenOthers();
        noneIsOut();
        fewerAreOutThanWanted();
        warmingOnesGoFirst();
        theGreatestServingOnesDrain();
        allGo();
        theOldestDoesNotMatter();
        drainingOnesAreNotTakenAgain();
        Due.end();
    }

    private static MoreHands byLeast(int... settings) {
        MoreHands x = Make.with(Make.KIND, 0, Make.LEAST, 0, Make.WARM, 5, Make.DRAIN, 5);
        Make.change(x, settings);
        return x;
    }

    private static void up(MoreHands x, int n) {
        Make.change(x, Make.LEAST, 0, Make.MOST, 12, Make.LEAST, n);
        x.tick(1);
    }

    private static void down(MoreHands x, int n) {
        Make.change(x, Make.LEAST, 0, Make.MOST, n);
        x.tick(1);
    }

    private static void states(String what, MoreHands x, int... due) {
        for (int s = 0; s < 12; s++) {
            Due.is(what + ": SERVER " + s, x.server(s, 0), s < due.length ? due[s] : OUT);
        }
    }

    private static void theLeastOutOnesBegin() {
        for (int n = 0; n <= 12; n++) {
            MoreHands x = byLeast();
            up(x, n);
            for (int s = 0; s < 12; s++) {
                Due.is(n + " are wanted: SERVER " + s, x.server(s, 0), s < n ? WARMING : OUT);
            }
        }
    }

    private static void allTwelve() {
        MoreHands x = byLeast(Make.WARM, 0);
        up(x, 12);
        Due.is("12 are UP", x.now(8), 12);
        Due.is("12 are SERVING", x.now(9), 12);
        x.tick(1);
        Due.is("no further change", x.now(11), 2);
    }

    private static void outOnesBetweenOthers() {
        MoreHands x = byLeast(Make.WARM, 0);
        up(x, 6);
        x.fail(1, false);
        x.fail(4, false);
        Make.change(x, Make.WARM, 5);
        up(x, 5);
        states("the least OUT one", x, SERVING, WARMING, SERVING, SERVING, OUT, SERVING);
        up(x, 7);
        states("the next OUT ones", x, SERVING, WARMING, SERVING, SERVING, WARMING, SERVING, WARMING);
    }

    private static void noneIsOut() {
        MoreHands x = byLeast(Make.WARM, 0);
        up(x, 12);
        down(x, 0);
        Due.is("all drain", x.now(10), 12);
        Due.is("latest change", x.now(11), 1);
        up(x, 4);
        Due.is("WANTED", x.now(7), 4);
        Due.is("none is OUT", x.now(8), 0);
        Due.is("all drain on", x.now(10), 12);
        Due.is("nothing was changed", x.now(11), 2);
    }

    private static void fewerAreOutThanWanted() {
        MoreHands x = byLeast(Make.WARM, 0);
        up(x, 12);
        down(x, 2);
        x.fail(5, false);
        x.fail(11, false);
        Make.change(x, Make.WARM, 5);
        up(x, 9);
        Due.is("WANTED", x.now(7), 9);
        states("as far as there are such", x, SERVING, SERVING, DRAINING, DRAINING, DRAINING, WARMING, DRAINING,
            DRAINING, DRAINING, DRAINING, DRAINING, WARMING);
        Due.is("that is a change", x.now(11), 1);
        Due.is("UP at the end of the TICK", x.was(2, 3), 4);
    }

    private static void warmingOnesGoFirst() {
        MoreHands x = byLeast(Make.WARM, 0);
        up(x, 2);
        Make.change(x, Make.WARM, 5);
        up(x, 5);
        down(x, 4);
        states("the greatest WARMING one goes OUT", x, SERVING, SERVING, WARMING, WARMING);
        down(x, 2);
        states("all WARMING ones go OUT", x, SERVING, SERVING);
        up(x, 5);
        down(x, 1);
        states("WARMING ones go, then one drains", x, SERVING, DRAINING);
        MoreHands y = byLeast(Make.WARM, 0);
        up(y, 6);
        y.fail(0, false);
        Make.change(y, Make.WARM, 5);
        up(y, 6);
        down(y, 5);
        states("a WARMING one of least number goes ahead of SERVING ones", y, OUT, SERVING, SERVING, SERVING, SERVING,
            SERVING);
        down(y, 4);
        states("then the greatest SERVING one", y, OUT, SERVING, SERVING, SERVING, SERVING, DRAINING);
    }

    private static void theGreatestServingOnesDrain() {
        for (int n = 0; n <= 12; n++) {
            MoreHands x = byLeast(Make.WARM, 0);
            up(x, 12);
            down(x, n);
            for (int s = 0; s < 12; s++) {
                Due.is(n + " are left: SERVER " + s, x.server(s, 0), s < n ? SERVING : DRAINING);
            }
        }
    }

    private static void allGo() {
        for (int n = 0; n <= 12; n++) {
            MoreHands x = byLeast();
            up(x, 12);
            down(x, n);
            for (int s = 0; s < 12; s++) {
                Due.is(n + " WARMING ones are left: SERVER " + s, x.server(s, 0), s < n ? WARMING : OUT);
            }
            Due.is("none drains", x.now(10), 0);
        }
    }

    private static void theOldestDoesNotMatter() {
        MoreHands x = byLeast();
        up(x, 4);
        x.fail(0, false);
        up(x, 4);
        down(x, 2);
        states("the greatest number, not the latest", x, WARMING, WARMING);
        Due.is("it began later", x.server(0, 1), 1);
        Due.is("than this one", x.server(1, 1), 2);
    }

    private static void drainingOnesAreNotTakenAgain() {
        MoreHands x = byLeast(Make.WARM, 0);
        up(x, 4);
        down(x, 2);
        up(x, 3);
        states("an OUT one begins, DRAINING ones go on", x, SERVING, SERVING, DRAINING, DRAINING, SERVING);
        Due.is("since its beginning", x.server(3, 1), 1);
        down(x, 2);
        Due.is("DRAINING ones are not told anew", x.server(3, 1), 2);
        states("the greatest SERVING one", x, SERVING, SERVING, DRAINING, DRAINING, DRAINING);
    }
}
