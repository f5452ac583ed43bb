public final class Promise07TickTest {
    static final int WARM = 0, DRAIN = 1, RATE = 2, PATIENCE = 3, TRIES = 4, LATE = 5, MEAN = 6;
    static final int LEAST = 7, MOST = 8, REST = 9, KIND = 10, TARGET = 11, HIGH = 12, LOW = 13;
    static final int UP = 14, DOWN = 15, PRICE = 16, SPOT_PRICE = 17, PENALTY = 18;

    public static void main(String[] args) {
        refusals();
        meter();
        lateMeter();
        ruleNone();
        ruleTarget();
        ruleSteps();
        bounds();
        rest();
        restWithPlan();
        noChangeWithoutServers();
        warming();
        draining();
        whichOnes();
        patience();
        tries();
        orderOfTries();
        bills();
        allTicks();
        Due.end();
    }

    private static MoreHands with(int... settings) {
        MoreHands x = new MoreHands();
        for (int i = 0; i < settings.length; i += 2) {
            x.setting(settings[i], settings[i + 1]);
        }
        return x;
    }

    private static void loads(MoreHands x, int... loads) {
        for (int i = 0; i < loads.length; i++) {
            x.load(x.now(0) + i, loads[i]);
        }
    }

    private static void refusals() {
        MoreHands x = new MoreHands();
        Due.is("tick(0)", x.tick(0), 0);
        Due.refused("tick(-1)", x, () -> x.tick(-1), MoreHands.OUTSIDE);
        Due.refused("tick(201)", x, () -> x.tick(201), MoreHands.OUTSIDE);
        Due.is("tick(MIN)", x.tick(Integer.MIN_VALUE), MoreHands.OUTSIDE);
        Due.is("tick(MAX)", x.tick(Integer.MAX_VALUE), MoreHands.OUTSIDE);
        Due.is("tick(3)", x.tick(3), 3);
        Due.refused("tick(198)", x, () -> x.tick(198), MoreHands.NOT);
        Due.is("tick(201) is OUTSIDE ahead of NOT", x.tick(201), MoreHands.OUTSIDE);
        Due.is("tick(197)", x.tick(197), 200);
        Due.is("tick(0) at the end", x.tick(0), 200);
        Due.refused("tick(1) at the end", x, () -> x.tick(1), MoreHands.NOT);
        Due.is("tick(200)", new MoreHands().tick(200), 200);
    }

    private static void meter() {
        MoreHands x = with(LEAST, 0, MOST, 0, PATIENCE, 10, MEAN, 3);
        loads(x, 10, 10, 0, 11);
        x.lose(2, true);
        int[] due = {10, 15, 15, 25};
        for (int reading : due) {
            x.tick(1);
            Due.is("READING in TICK " + (x.now(0) - 1), x.now(6), reading);
        }
    }

    private static void lateMeter() {
        MoreHands x = with(LEAST, 0, MOST, 0, PATIENCE, 10, MEAN, 2, LATE, 2);
        loads(x, 7, 4, 60, 0, 0);
        x.lose(3, true);
        x.lose(4, true);
        int[] due = {0, 0, 7, 9, 41, 71, 71};
        for (int reading : due) {
            x.tick(1);
            Due.is("late READING in TICK " + (x.now(0) - 1), x.now(6), reading);
        }
    }

    private static void ruleNone() {
        MoreHands x = with(KIND, 0);
        loads(x, 60, 60, 60);
        x.tick(3);
        Due.is("KIND 0: LEAST alone", x.now(8), 1);
        x.setting(LEAST, 0);
        x.tick(1);
        Due.is("KIND 0 keeps what is UP", x.now(7), 1);
        x.fail(0, false);
        x.tick(1);
        Due.is("KIND 0: as many as are UP", x.now(7), 0);
    }

    private static void ruleTarget() {
        int[][] due = {{0, 5, 0}, {1, 5, 1}, {5, 5, 1}, {6, 5, 2}, {10, 5, 2}, {11, 5, 3}, {60, 60, 1}, {59, 1, 12}};
        for (int[] row : due) {
            MoreHands x = with(LEAST, 0, TARGET, row[1]);
            loads(x, row[0]);
            x.tick(1);
            Due.is("WANTED for " + row[0] + " by " + row[1], x.now(7), row[2]);
            Due.is("UP for " + row[0] + " by " + row[1], x.now(8), row[2]);
        }
    }

    private static void ruleSteps() {
        int[][] due = {{11, 9}, {10, 6}, {4, 6}, {3, 4}, {0, 4}};
        for (int[] row : due) {
            MoreHands x = with(KIND, 0, LEAST, 6, WARM, 0);
            x.tick(1);
            x.setting(LEAST, 0);
            x.setting(KIND, 2);
            x.setting(HIGH, 10);
            x.setting(LOW, 4);
            x.setting(UP, 3);
            x.setting(DOWN, 2);
            loads(x, row[0]);
            x.tick(1);
            Due.is("KIND 2: WANTED for " + row[0], x.now(7), row[1]);
        }
        MoreHands x = with(KIND, 2, WARM, 0, LEAST, 0, HIGH, 2, LOW, 400, UP, 6, DOWN, 6);
        loads(x, 3, 2);
        x.tick(1);
        Due.is("KIND 2: HIGH goes ahead of LOW", x.now(7), 6);
        x.tick(1);
        Due.is("KIND 2: down", x.now(7), 0);
        x.tick(1);
        Due.is("KIND 2: not below 0", x.now(7), 0);
    }

    private static void bounds() {
        MoreHands x = with(LEAST, 3, MOST, 7);
        x.plan(1, 5);
        x.plan(2, 2);
        x.plan(3, 12);
        loads(x, 0, 0, 0, 0, 60, 20);
        int[] wanted = {3, 5, 3, 7, 7};
        for (int due : wanted) {
            x.tick(1);
            Due.is("WANTED in TICK " + (x.now(0) - 1), x.now(7), due);
        }
    }

    private static void rest() {
        MoreHands x = with(REST, 2, WARM, 0, LEAST, 0, RATE, 20, DRAIN, 0);
        loads(x, 10, 0, 0, 20, 0, 0, 0);
        int[] up = {2, 2, 0, 0, 4, 4, 0};
        int[] wanted = {2, 0, 0, 4, 4, 0, 0};
        int[] since = {1, 2, 1, 2, 1, 2, 1};
        for (int t = 0; t < up.length; t++) {
            x.tick(1);
            Due.is("UP at rest, TICK " + t, x.now(8), up[t]);
            Due.is("WANTED at rest, TICK " + t, x.now(7), wanted[t]);
            Due.is("latest change, TICK " + t, x.now(11), since[t]);
        }
    }

    private static void restWithPlan() {
        MoreHands x = with(REST, 10, TARGET, 1, WARM, 0);
        x.plan(2, 5);
        x.plan(3, 12);
        loads(x, 2, 12, 12, 0, 60);
        x.tick(1);
        Due.is("UP", x.now(8), 2);
        x.tick(1);
        Due.is("at rest UP stays", x.now(8), 2);
        x.tick(1);
        Due.is("at rest brought up to PLAN", x.now(8), 5);
        Due.is("but not to WANTED", x.now(7), 12);
        Due.is("that is a change", x.now(11), 1);
        x.setting(MOST, 7);
        x.tick(1);
        Due.is("brought up to MOST, below PLAN", x.now(8), 7);
        x.setting(MOST, 3);
        x.tick(1);
        Due.is("at rest not brought down to MOST", x.now(8), 7);
        Due.is("WANTED is at most MOST", x.now(7), 3);
        x.fail(0, false);
        x.fail(1, false);
        x.fail(2, false);
        x.fail(3, false);
        x.fail(4, false);
        x.fail(5, false);
        x.setting(LEAST, 3);
        x.tick(1);
        Due.is("at rest brought up to LEAST", x.now(8), 3);
    }

    private static void noChangeWithoutServers() {
        MoreHands x = with(KIND, 0, WARM, 0, DRAIN, 5, LEAST, 12);
        x.tick(1);
        x.setting(LEAST, 0);
        x.setting(MOST, 0);
        x.tick(1);
        Due.is("all drain", x.now(10), 12);
        Due.is("latest change", x.now(11), 1);
        x.setting(MOST, 12);
        x.setting(LEAST, 4);
        x.tick(1);
        Due.is("WANTED", x.now(7), 4);
        Due.is("none is OUT", x.now(8), 0);
        Due.is("nothing was changed", x.now(11), 2);
    }

    private static void warming() {
        for (int warm = 0; warm <= 5; warm++) {
            MoreHands x = with(KIND, 0, WARM, warm, PATIENCE, 10);
            loads(x, 5);
            x.tick(warm);
            Due.is("WARM " + warm + ": none SERVING yet", x.now(9), 0);
            x.tick(1);
            Due.is("WARM " + warm + ": SERVING", x.now(9), 1);
            Due.is("WARM " + warm + ": done", x.now(3), 5);
        }
        MoreHands x = with(KIND, 0, WARM, 5);
        x.tick(3);
        x.setting(WARM, 2);
        x.tick(1);
        Due.is("WARM made less", x.server(0, 0), 2);
    }

    private static void draining() {
        for (int drain = 0; drain <= 5; drain++) {
            MoreHands x = with(LEAST, 2, WARM, 0, DRAIN, drain, TARGET, 60);
            x.tick(1);
            x.setting(LEAST, 0);
            loads(x, 12);
            x.lose(1, true);
            x.tick(1);
            Due.is("DRAIN " + drain + ": done while it drains", x.was(1, 1), 10);
            Due.is("DRAIN " + drain + ": PRICE while it drains", x.was(1, 5), 20);
            Due.is("DRAIN " + drain + ": UP", x.now(8), 0);
            Due.is("DRAIN " + drain + ": DRAINING", x.now(10), drain == 0 ? 0 : 2);
            x.setting(KIND, 0);
            for (int t = 1; t <= drain; t++) {
                Due.is("DRAIN " + drain + ": TICKS behind", x.server(1, 1), t - 1);
                x.tick(1);
                Due.is("DRAIN " + drain + ": PRICE, TICK " + t, x.was(1 + t, 5), 20);
                Due.is("DRAIN " + drain + ", TICK " + t, x.now(10), t < drain ? 2 : 0);
            }
            x.tick(1);
            Due.is("DRAIN " + drain + ": OUT ones cost nothing", x.was(2 + drain, 5), 0);
        }
    }

    private static void whichOnes() {
        MoreHands x = with(KIND, 0, LEAST, 2);
        x.tick(2);
        x.setting(WARM, 5);
        x.setting(LEAST, 5);
        x.tick(1);
        states(x, "the least numbers begin", 2, 2, 1, 1, 1, 0);
        x.setting(LEAST, 0);
        x.setting(MOST, 4);
        x.tick(1);
        states(x, "the greatest WARMING one goes OUT", 2, 2, 1, 1, 0, 0);
        x.setting(MOST, 1);
        x.tick(1);
        states(x, "WARMING ones go, then the greatest SERVING one drains", 2, 3, 0, 0, 0, 0);
        x.setting(MOST, 12);
        x.setting(LEAST, 3);
        x.tick(1);
        states(x, "one that drained goes OUT behind CHANGES", 2, 0, 1, 1, 0, 0);
        x.fail(0, false);
        x.tick(1);
        states(x, "OUT ones by numbers", 1, 0, 1, 1, 0, 0);
    }

    private static void states(MoreHands x, String what, int... due) {
        for (int s = 0; s < due.length; s++) {
            Due.is(what + ": SERVER " + s, x.server(s, 0), due[s]);
        }
    }

    private static void patience() {
        for (int patience = 1; patience <= 10; patience++) {
            MoreHands x = with(LEAST, 0, MOST, 0, PATIENCE, patience);
            loads(x, 9);
            x.tick(patience - 1);
            Due.is("PATIENCE " + patience + ": not yet", x.now(4), 0);
            x.tick(1);
            Due.is("PATIENCE " + patience + ": LOST", x.now(4), 9);
            Due.is("PATIENCE " + patience + ": in this TICK", x.was(patience - 1, 2), 9);
            Due.is("PATIENCE " + patience + ": nobody waits", x.now(1), 0);
        }
        MoreHands x = with(LEAST, 0, MOST, 0, PATIENCE, 10);
        loads(x, 10, 3, 0, 0, 2);
        x.tick(4);
        x.setting(PATIENCE, 2);
        x.tick(1);
        Due.is("PATIENCE made less", x.now(4), 13);
        Due.is("who came now waits", x.now(1), 2);
    }

    private static void tries() {
        MoreHands x = with(LEAST, 0, MOST, 0, PATIENCE, 1, TRIES, 2);
        loads(x, 4, 7, 0);
        x.tick(1);
        Due.is("will try again", x.now(2), 4);
        Due.is("do not wait", x.now(1), 0);
        Due.is("are not LOST", x.now(4), 0);
        x.tick(1);
        Due.is("wait with the new ones", x.was(1, 0), 11);
        Due.is("tried twice: LOST", x.now(4), 4);
        Due.is("tried once", x.now(2), 7);
        x.tick(1);
        Due.is("all are LOST", x.now(4), 11);
        Due.is("tries are told once", x.now(12), 11);

        MoreHands y = with(LEAST, 0, MOST, 0, PATIENCE, 2, TRIES, 4);
        loads(y, 5);
        y.tick(7);
        Due.is("four tries of two TICKS, not yet", y.now(4), 0);
        y.tick(1);
        Due.is("four tries of two TICKS", y.now(4), 5);

        MoreHands z = with(LEAST, 0, MOST, 0, PATIENCE, 2, TRIES, 4);
        loads(z, 5);
        z.tick(5);
        z.setting(TRIES, 1);
        z.tick(1);
        Due.is("TRIES made less", z.now(4), 5);
    }

    private static void orderOfTries() {
        MoreHands x = with(KIND, 0, LEAST, 0, MOST, 0, PATIENCE, 1, TRIES, 2, WARM, 0);
        loads(x, 4, 7);
        x.tick(1);
        x.setting(MOST, 12);
        x.setting(LEAST, 1);
        x.tick(1);
        Due.is("those that try again go ahead of the new ones", x.now(2), 6);
        Due.is("none of them is LOST", x.now(4), 0);

        MoreHands y = with(KIND, 0, LEAST, 0, MOST, 0, PATIENCE, 2, TRIES, 2, WARM, 0);
        loads(y, 3, 4, 0, 0);
        y.tick(2);
        y.setting(MOST, 12);
        y.setting(LEAST, 1);
        y.tick(1);
        Due.is("those that try again go behind those there", y.now(2), 0);
        Due.is("two of them wait", y.now(1), 2);

        // In TICK 2 wait: 3 of TICK 0 with two tries behind them, then 5 of TICK 1 with one.
        MoreHands z = with(KIND, 0, LEAST, 0, MOST, 0, PATIENCE, 1, TRIES, 3, WARM, 0);
        loads(z, 3, 5, 6);
        z.tick(2);
        z.setting(MOST, 12);
        z.setting(LEAST, 1);
        z.tick(1);
        Due.is("in the order in which they went", z.now(4), 0);
        Due.is("the rest tries again", z.now(2), 9);
    }

    private static void allTicks() {
        MoreHands x = with(LEAST, 0, MOST, 0, PATIENCE, 1, TARGET, 1);
        int sum = 0;
        for (int t = 0; t < 200; t++) {
            int load = 1 + t % 7;
            x.load(t, load);
            sum += load;
        }
        x.tick(199);
        Due.is("LOST ahead of the last TICK", x.now(4), sum - (1 + 199 % 7));
        x.tick(1);
        Due.is("all are LOST", x.now(4), sum);
        Due.is("all came", x.now(12), sum);
        Due.is("READING of the last TICK", x.now(6), 1 + 199 % 7);
        Due.is("who waited in the last TICK", x.was(199, 0), 1 + 199 % 7);
    }

    private static void bills() {
        MoreHands x = with(KIND, 0, LEAST, 12, PRICE, 7, SPOT_PRICE, 3, PENALTY, 1000, RATE, 1, PATIENCE, 1);
        loads(x, 2, 60);
        x.tick(1);
        Due.is("WARMING ones are paid for, and LOST ones", x.now(5), 8 * 7 + 4 * 3 + 2000);
        x.tick(1);
        Due.is("the second TICK", x.was(1, 5), 8 * 7 + 4 * 3 + 48000);
        Due.is("both", x.now(5), 2 * 68 + 50000);
        x.setting(LEAST, 0);
        x.setting(MOST, 0);
        x.setting(DRAIN, 0);
        x.tick(1);
        Due.is("DRAINING ones are paid for in their last TICK", x.was(2, 5), 68);
        x.tick(1);
        Due.is("OUT ones are not", x.was(3, 5), 0);

        MoreHands y = with(KIND, 0, LEAST, 3, WARM, 5);
        y.tick(1);
        y.setting(LEAST, 0);
        y.setting(MOST, 0);
        y.tick(1);
        Due.is("WARMING ones that went OUT are not paid for", y.was(1, 5), 0);
    }
}
