/** 4. WANTED: the three KINDS of rule, and the bounds behind them. */
public final class Promise07Step04WantedTest {
    public static void main(String[] args) {
        asManyAsAreUp();
        targetRoundedUp();
        everyTarget();
        stepUpAndDown();
        highAheadOfLow();
        highAndLowAtTheirBounds();
        everyStep();
        warmingOnesAreUpAndDrainingOnesAreNot();
        bounds();
        boundsByEachKind();
        Due.end();
    }

    private static void asManyAsAreUp() {
        MoreHands x = Make.with(Make.KIND, 0);
        Make.loads(x, 60, 60, 60);
        x.tick(3);
        Due.is("KIND 0: LEAST alone", x.now(8), 1);
        x.setting(Make.LEAST, 0);
        x.tick(1);
        Due.is("KIND 0 keeps what is UP", x.now(7), 1);
        x.fail(0, false);
        x.tick(1);
        Due.is("KIND 0: as many as are UP", x.now(7), 0);
        MoreHands y = Make.with(Make.KIND, 0, Make.LEAST, 0);
        y.load(0, 60);
        y.tick(9);
        Due.is("KIND 0: none", y.now(7), 0);
    }

    private static void targetRoundedUp() {
        int[][] due = {{0, 5, 0}, {1, 5, 1}, {4, 5, 1}, {5, 5, 1}, {6, 5, 2}, {10, 5, 2}, {11, 5, 3}, {59, 60, 1},
            {60, 60, 1}, {60, 59, 2}, {1, 60, 1}, {0, 1, 0}, {1, 1, 1}, {11, 1, 11}, {12, 1, 12}, {13, 1, 12}};
        for (int[] row : due) {
            MoreHands x = Make.with(Make.LEAST, 0, Make.TARGET, row[1]);
            Make.loads(x, row[0]);
            x.tick(1);
            Due.is("WANTED for " + row[0] + " by " + row[1], x.now(7), row[2]);
            Due.is("UP for " + row[0] + " by " + row[1], x.now(8), row[2]);
        }
        MoreHands x = Make.with(Make.LEAST, 0, Make.TARGET, 60, Make.PATIENCE, 10, Make.WARM, 5, Make.RATE, 1);
        Make.loads(x, 60, 1);
        x.tick(2);
        Due.is("WANTED for 61 by 60", x.now(7), 2);
    }

    private static void everyTarget() {
        for (int target = 1; target <= 60; target++) {
            MoreHands x = Make.with(Make.LEAST, 0, Make.TARGET, target);
            Make.loads(x, 60);
            x.tick(1);
            int due = 60 / target + (60 % target > 0 ? 1 : 0);
            Due.is("WANTED for 60 by " + target, x.now(7), Math.min(due, 12));
        }
    }

    /** Six are SERVING and nobody waits; then the SETTINGS become the told ones and the LOAD comes. */
    private static MoreHands sixUp(int load, int... settings) {
        MoreHands x = Make.with(Make.KIND, 0, Make.LEAST, 6, Make.WARM, 0);
        x.tick(1);
        Make.change(x, Make.LEAST, 0, Make.KIND, 2);
        Make.change(x, settings);
        Make.loads(x, load);
        x.tick(1);
        return x;
    }

    private static void stepUpAndDown() {
        int[][] due = {{60, 9}, {11, 9}, {10, 6}, {9, 6}, {5, 6}, {4, 6}, {3, 4}, {0, 4}};
        for (int[] row : due) {
            MoreHands x = sixUp(row[0], Make.HIGH, 10, Make.LOW, 4, Make.UP, 3, Make.DOWN, 2);
            Due.is("KIND 2: WANTED for " + row[0], x.now(7), row[1]);
            Due.is("KIND 2: UP for " + row[0], x.now(8), row[1]);
        }
    }

    private static void highAheadOfLow() {
        Due.is("above HIGH and below LOW", sixUp(3, Make.HIGH, 2, Make.LOW, 400).now(7), 7);
        Due.is("not above HIGH, below LOW", sixUp(2, Make.HIGH, 2, Make.LOW, 400).now(7), 5);
        Due.is("above HIGH as LOW", sixUp(6, Make.HIGH, 5, Make.LOW, 5).now(7), 7);
        Due.is("HIGH as LOW", sixUp(5, Make.HIGH, 5, Make.LOW, 5).now(7), 6);
        Due.is("below HIGH as LOW", sixUp(4, Make.HIGH, 5, Make.LOW, 5).now(7), 5);
    }

    private static void highAndLowAtTheirBounds() {
        Due.is("HIGH 0, nobody waits", sixUp(0, Make.HIGH, 0, Make.LOW, 0).now(7), 6);
        Due.is("HIGH 0, one waits", sixUp(1, Make.HIGH, 0, Make.LOW, 0).now(7), 7);
        Due.is("LOW 1, nobody waits", sixUp(0, Make.HIGH, 400, Make.LOW, 1).now(7), 5);
        Due.is("HIGH 400", sixUp(60, Make.HIGH, 400, Make.LOW, 0).now(7), 6);
        // Nobody serves: 60, 120, .. wait; 400 and 401 are met in TICK 6.
        for (int last = 39; last <= 41; last++) {
            MoreHands x = Make.with(Make.KIND, 2, Make.LEAST, 0, Make.HIGH, 400, Make.LOW, 400, Make.PATIENCE, 10,
                Make.WARM, 5);
            Make.loads(x, 60, 60, 60, 60, 60, 60, last + 1);
            x.tick(6);
            Due.is("below LOW 400: not less than none", x.now(7), 0);
            x.tick(1);
            Due.is("READING", x.now(6), 361 + last);
            Due.is("READING " + x.now(6) + ", HIGH 400", x.now(7), last + 361 > 400 ? 1 : 0);
        }
        for (int last = 38; last <= 40; last++) {
            MoreHands x = Make.with(Make.KIND, 0, Make.LEAST, 3, Make.WARM, 5, Make.PATIENCE, 10);
            Make.loads(x, 60, 60, 60, 60, 60, 60, last);
            x.tick(4);
            for (int server = 0; server < 3; server++) {
                x.fail(server, false);
            }
            x.tick(2);
            Make.change(x, Make.KIND, 2, Make.LEAST, 0, Make.HIGH, 400, Make.LOW, 400);
            x.tick(1);
            Due.is("READING " + x.now(6) + ", LOW 400", x.now(7), last + 360 < 400 ? 2 : 3);
        }
    }

    private static void everyStep() {
        for (int step = 1; step <= 6; step++) {
            Due.is("UP " + step, sixUp(60, Make.UP, step).now(7), 6 + step);
            Due.is("DOWN " + step, sixUp(0, Make.DOWN, step).now(7), 6 - step);
        }
        Due.is("not above MOST", sixUp(60, Make.UP, 6, Make.MOST, 11).now(7), 11);
        Due.is("not below LEAST", sixUp(0, Make.DOWN, 6, Make.LEAST, 1).now(7), 1);
        MoreHands x = Make.with(Make.KIND, 2, Make.LEAST, 0, Make.DOWN, 6);
        x.tick(1);
        Due.is("not below 0", x.now(7), 0);
        Due.is("none is UP", x.now(8), 0);
        MoreHands y = Make.with(Make.KIND, 2, Make.UP, 6, Make.WARM, 5);
        Make.loads(y, 60, 60, 60);
        y.tick(3);
        Due.is("not above 12", y.now(7), 12);
        Due.is("12 are UP", y.now(8), 12);
    }

    private static void warmingOnesAreUpAndDrainingOnesAreNot() {
        MoreHands x = Make.with(Make.KIND, 2, Make.LEAST, 0, Make.WARM, 5, Make.DRAIN, 5, Make.UP, 2);
        Make.loads(x, 20, 20);
        x.tick(2);
        Due.is("two WARMING ones, and two more", x.now(7), 4);
        MoreHands y = Make.with(Make.KIND, 0, Make.LEAST, 6, Make.WARM, 0, Make.DRAIN, 5);
        y.tick(1);
        Make.change(y, Make.LEAST, 0, Make.MOST, 4);
        y.tick(1);
        Make.change(y, Make.MOST, 12);
        y.tick(1);
        Due.is("two drain, four are UP", y.now(7), 4);
        Due.is("UP", y.now(8), 4);
        Due.is("DRAINING", y.now(10), 2);
    }

    private static void bounds() {
        MoreHands x = Make.with(Make.LEAST, 3, Make.MOST, 7);
        x.plan(1, 5);
        x.plan(2, 2);
        x.plan(3, 12);
        Make.loads(x, 0, 0, 0, 0, 60, 20);
        int[] wanted = {3, 5, 3, 7, 7};
        for (int due : wanted) {
            x.tick(1);
            Due.is("WANTED in TICK " + (x.now(0) - 1), x.now(7), due);
        }
        MoreHands y = Make.with(Make.LEAST, 4, Make.MOST, 4);
        Make.loads(y, 0, 60, 20);
        y.tick(3);
        for (int tick = 0; tick < 3; tick++) {
            Due.is("LEAST and MOST 4", y.was(tick, 4), 4);
        }
    }

    private static void boundsByEachKind() {
        for (int kind = 0; kind <= 2; kind++) {
            MoreHands least = Make.with(Make.KIND, kind, Make.LEAST, 5);
            least.tick(1);
            Due.is("KIND " + kind + ": at least LEAST", least.now(7), 5);
            MoreHands plan = Make.with(Make.KIND, kind);
            plan.plan(0, 8);
            plan.tick(1);
            Due.is("KIND " + kind + ": at least PLAN", plan.now(7), 8);
            Make.change(plan, Make.MOST, 2);
            Make.loads(plan, 60, 60, 60);
            plan.tick(1);
            Due.is("KIND " + kind + ": at most MOST", plan.now(7), 2);
            Due.is("KIND " + kind + ": brought down to MOST", plan.now(8), 2);
        }
    }
}
