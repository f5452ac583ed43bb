/** 6. to 8.: SERVERS that warm up, that do REQUESTS, that drain and go OUT; and those that FAIL between two TICKS. */
public final class Promise07Step06WarmTest {
    public static void main(String[] args) {
        everyWarm();
        warmIsChanged();
        everyRate();
        emptyAndFullQueue();
        everyDrain();
        drainIsChanged();
        drainingOnesDoRequests();
        outAndWarmingOnesDoNone();
        failed();
        Due.end();
    }

    private static void everyWarm() {
        for (int warm = 0; warm <= 5; warm++) {
            MoreHands x = Make.with(Make.KIND, 0, Make.WARM, warm, Make.PATIENCE, 10);
            Make.loads(x, 5);
            for (int tick = 0; tick < warm; tick++) {
                x.tick(1);
                Due.is("WARM " + warm + ", TICK " + tick + ": WARMING", x.server(0, 0), 1);
                Due.is("WARM " + warm + ", TICK " + tick + ": TICKS behind", x.server(0, 1), tick);
                Due.is("WARM " + warm + ", TICK " + tick + ": UP", x.now(8), 1);
                Due.is("WARM " + warm + ", TICK " + tick + ": none SERVING", x.now(9), 0);
                Due.is("WARM " + warm + ", TICK " + tick + ": none done", x.now(3), 0);
            }
            x.tick(1);
            Due.is("WARM " + warm + ": SERVING", x.now(9), 1);
            Due.is("WARM " + warm + ": done in this TICK", x.was(warm, 1), 5);
        }
    }

    private static void warmIsChanged() {
        MoreHands x = Make.with(Make.KIND, 0, Make.WARM, 5);
        x.tick(3);
        Make.change(x, Make.WARM, 2);
        x.tick(1);
        Due.is("WARM made less", x.server(0, 0), 2);
        MoreHands y = Make.with(Make.KIND, 0, Make.WARM, 1);
        y.tick(1);
        Make.change(y, Make.WARM, 3);
        y.tick(2);
        Due.is("WARM made more: WARMING", y.server(0, 0), 1);
        y.tick(1);
        Due.is("WARM made more: SERVING", y.server(0, 0), 2);
        Make.change(y, Make.WARM, 5);
        y.tick(1);
        Due.is("SERVING stays SERVING", y.server(0, 0), 2);
        MoreHands z = Make.with(Make.KIND, 0, Make.WARM, 3, Make.LEAST, 1);
        z.tick(1);
        Make.change(z, Make.LEAST, 2);
        z.tick(2);
        Due.is("each since its own beginning: the first", z.server(0, 1), 2);
        Due.is("each since its own beginning: the second", z.server(1, 1), 1);
        z.tick(1);
        Due.is("the first is SERVING", z.server(0, 0), 2);
        Due.is("the second is not", z.server(1, 0), 1);
    }

    private static void everyRate() {
        for (int rate = 1; rate <= 20; rate++) {
            for (int n = 1; n <= 3; n++) {
                MoreHands x = Make.with(Make.KIND, 0, Make.WARM, 0, Make.RATE, rate, Make.LEAST, n);
                Make.loads(x, 60);
                x.tick(1);
                Due.is("RATE " + rate + " of " + n + ": done", x.was(0, 1), Math.min(60, rate * n));
                Due.is("RATE " + rate + " of " + n + ": wait", x.now(1), Math.max(0, 60 - rate * n));
            }
        }
        MoreHands x = Make.with(Make.KIND, 0, Make.WARM, 0, Make.RATE, 20, Make.LEAST, 0, Make.MOST, 0,
            Make.PATIENCE, 10);
        Make.loads(x, 60, 60, 60, 60, 60);
        x.tick(4);
        Make.change(x, Make.MOST, 12, Make.LEAST, 12);
        x.tick(1);
        Due.is("12 of RATE 20", x.was(4, 1), 240);
        Due.is("the rest waits", x.now(1), 60);
    }

    private static void emptyAndFullQueue() {
        for (int load = 0; load <= 12; load++) {
            MoreHands x = Make.with(Make.KIND, 0, Make.WARM, 0, Make.LEAST, 2, Make.RATE, 5);
            Make.loads(x, load, 0);
            x.tick(1);
            Due.is("done of " + load, x.now(3), Math.min(load, 10));
            Due.is("left of " + load, x.now(1), Math.max(load - 10, 0));
            x.tick(1);
            Due.is("done in two TICKS of " + load, x.now(3), load);
            Due.is("done in the second one", x.was(1, 1), Math.max(load - 10, 0));
        }
    }

    private static void everyDrain() {
        for (int drain = 0; drain <= 5; drain++) {
            MoreHands x = Make.with(Make.KIND, 0, Make.LEAST, 2, Make.WARM, 0, Make.DRAIN, drain);
            x.tick(1);
            Make.change(x, Make.LEAST, 0, Make.MOST, 0);
            for (int tick = 0; tick < drain; tick++) {
                x.tick(1);
                Due.is("DRAIN " + drain + ", TICK " + tick + ": DRAINING", x.now(10), 2);
                Due.is("DRAIN " + drain + ", TICK " + tick + ": TICKS behind", x.server(1, 1), tick);
                Due.is("DRAIN " + drain + ", TICK " + tick + ": UP", x.now(8), 0);
                Due.is("DRAIN " + drain + ", TICK " + tick + ": SERVING", x.now(9), 0);
                Due.is("DRAIN " + drain + ", TICK " + tick + ": PRICE", x.was(1 + tick, 5), 20);
            }
            x.tick(1);
            Due.is("DRAIN " + drain + ": OUT", x.now(10), 0);
            Due.is("DRAIN " + drain + ": SERVER 1", x.server(1, 0), 0);
            Due.is("DRAIN " + drain + ": PRICE in the last TICK", x.was(1 + drain, 5), 20);
            x.tick(1);
            Due.is("DRAIN " + drain + ": OUT ones cost nothing", x.was(2 + drain, 5), 0);
        }
    }

    private static void drainIsChanged() {
        MoreHands x = Make.with(Make.KIND, 0, Make.LEAST, 1, Make.WARM, 0, Make.DRAIN, 5);
        x.tick(1);
        Make.change(x, Make.LEAST, 0, Make.MOST, 0);
        x.tick(3);
        Due.is("DRAINING", x.server(0, 0), 3);
        Make.change(x, Make.DRAIN, 1);
        x.tick(1);
        Due.is("DRAIN made less", x.server(0, 0), 0);
        MoreHands y = Make.with(Make.KIND, 0, Make.LEAST, 1, Make.WARM, 0, Make.DRAIN, 1);
        y.tick(1);
        Make.change(y, Make.LEAST, 0, Make.MOST, 0);
        y.tick(1);
        Make.change(y, Make.DRAIN, 3);
        y.tick(2);
        Due.is("DRAIN made more: DRAINING", y.server(0, 0), 3);
        y.tick(1);
        Due.is("DRAIN made more: OUT", y.server(0, 0), 0);
    }

    private static void drainingOnesDoRequests() {
        for (int drain = 0; drain <= 5; drain++) {
            MoreHands x = Make.with(Make.KIND, 0, Make.LEAST, 3, Make.WARM, 0, Make.DRAIN, drain, Make.RATE, 4,
                Make.PATIENCE, 10);
            x.tick(1);
            Make.change(x, Make.LEAST, 0, Make.MOST, 1);
            Make.loads(x, 60, 60, 60);
            for (int tick = 0; tick <= drain; tick++) {
                x.tick(1);
                Due.is("DRAIN " + drain + ": done, TICK " + tick, x.was(1 + tick, 1), 12);
            }
            x.tick(1);
            Due.is("DRAIN " + drain + ": done by the one that is left", x.was(2 + drain, 1), 4);
        }
    }

    private static void outAndWarmingOnesDoNone() {
        MoreHands x = Make.with(Make.KIND, 0, Make.LEAST, 0, Make.WARM, 5, Make.PATIENCE, 10);
        Make.loads(x, 60);
        x.tick(3);
        Due.is("none is UP", x.now(3), 0);
        Make.change(x, Make.LEAST, 12);
        x.tick(5);
        Due.is("12 are WARMING", x.now(3), 0);
        Due.is("all wait", x.now(1), 60);
        x.tick(1);
        Due.is("12 are SERVING", x.now(3), 60);
    }

    private static void failed() {
        MoreHands x = Make.with(Make.KIND, 0, Make.LEAST, 1, Make.WARM, 2, Make.PATIENCE, 10);
        Make.loads(x, 60);
        x.tick(2);
        x.fail(0, false);
        Due.is("UP", x.now(8), 0);
        x.tick(2);
        Due.is("it warms up anew", x.server(0, 0), 1);
        Due.is("from its new beginning", x.server(0, 1), 1);
        x.tick(1);
        Due.is("it is SERVING", x.server(0, 0), 2);
        Due.is("done", x.now(3), 5);
        Make.change(x, Make.LEAST, 0);
        x.fail(0, false);
        x.tick(1);
        Due.is("an OUT one does none", x.now(3), 5);
        Due.is("and costs nothing", x.was(5, 5), 0);

        MoreHands y = Make.with(Make.KIND, 0, Make.LEAST, 1, Make.WARM, 0, Make.DRAIN, 5, Make.PATIENCE, 10);
        Make.loads(y, 0, 60, 0);
        y.tick(1);
        Make.change(y, Make.LEAST, 0, Make.MOST, 0);
        y.tick(1);
        Due.is("a DRAINING one", y.fail(0, false), 3);
        y.tick(1);
        Due.is("does no more", y.now(3), 5);
        Due.is("and costs nothing", y.was(2, 5), 0);
    }
}
