public final class Promise15SwingTest {
    public static void main(String[] args) {
        steady();
        byThePlanOfADay();
        itSwings();
        behindAHundredTicks();
        beforeTick148();
        byTheseSettings();
        fromABeginning();
        outside();
        Due.end();
    }

    private static void due(String what, MoreHands x, int a, int swings, int fewest, int most) {
        Due.is(what + ": swing(" + a + ", 0)", x.swing(a, 0), swings);
        Due.is(what + ": swing(" + a + ", 1)", x.swing(a, 1), fewest);
        Due.is(what + ": swing(" + a + ", 2)", x.swing(a, 2), most);
    }

    private static void steady() {
        MoreHands x = new MoreHands();
        due("nobody comes", x, 0, 0, 1, 1);
        due("one comes", x, 1, 0, 1, 1);
        due("steady", x, 20, 0, 4, 4);
        due("all are UP", x, 60, 0, 12, 12);
        due("none may be UP", Make.with(Make.LEAST, 0, Make.MOST, 0), 60, 0, 0, 0);
        due("none is wanted", Make.with(Make.LEAST, 0), 0, 0, 0, 0);
    }

    private static void byThePlanOfADay() {
        for (int hour = 0; hour < 24; hour++) {
            MoreHands x = new MoreHands();
            x.plan(hour, 3);
            due("PLAN of hour " + hour, x, 0, 1, 1, 3);
            due("PLAN of hour " + hour + ", less than the rule's", x, 20, 0, 4, 4);
            x.setting(Make.KIND, 0);
            due("KIND 0 keeps what PLAN brought", x, 60, 0, 3, 3);
        }
    }

    private static void itSwings() {
        // No one SERVER does 7, two do more: one comes and goes.
        MoreHands x = Make.with(Make.KIND, 2, Make.WARM, 0, Make.DRAIN, 0, Make.HIGH, 9, Make.LOW, 8, Make.PATIENCE, 10);
        due("up and down", x, 7, 1, 1, 2);
        Make.change(x, Make.LEAST, 2);
        due("two at least", x, 7, 0, 2, 2);
        MoreHands y = Make.with(Make.KIND, 2, Make.REST, 10, Make.LATE, 3);
        Due.is("a late METER swings", y.swing(13, 0), 1);
    }

    /** One SERVER more in each tenth TICK from TICK first on, till there are most. */
    private static MoreHands slowlyMore(int first, int most) {
        return Make.with(Make.KIND, 2, Make.LEAST, 0, Make.MOST, most, Make.REST, 10, Make.RATE, 1, Make.PATIENCE, 10,
            Make.LATE, first);
    }

    private static void behindAHundredTicks() {
        due("the latest change is in TICK 100", slowlyMore(0, 11), 60, 0, 11, 11);
        due("the latest change is in TICK 110", slowlyMore(0, 12), 60, 1, 11, 12);
        for (int first = 1; first <= 5; first++) {
            due("the latest change is in TICK " + (100 + first), slowlyMore(first, 11), 60, 1, 10, 11);
            due("the latest change is in TICK " + (90 + first), slowlyMore(first, 10), 60, 0, 10, 10);
        }
    }

    private static void beforeTick148() {
        // One SERVER does 19 of 20: in TICK t wait 20 + t, till there are more than HIGH and a second one comes.
        for (int change = 98; change <= 150; change++) {
            MoreHands x = Make.with(Make.KIND, 2, Make.WARM, 0, Make.RATE, 19, Make.PATIENCE, 10, Make.LOW, 0, Make.HIGH,
                19 + change);
            boolean within = change >= 101 && change <= 147;
            due("the one change is in TICK " + change, x, 20, within ? 1 : 0, change > 100 ? 1 : 2, change > 147 ? 1 : 2);
        }
    }

    private static void byTheseSettings() {
        MoreHands x = new MoreHands();
        Make.change(x, Make.TARGET, 10);
        due("TARGET 10, RATE 5", x, 20, 0, 4, 4);
        Make.change(x, Make.RATE, 20, Make.TARGET, 20);
        due("RATE and TARGET 20", x, 20, 0, 1, 1);
        Make.change(x, Make.MOST, 1);
        due("MOST 1", x, 60, 0, 1, 1);
    }

    private static void fromABeginning() {
        MoreHands x = new MoreHands();
        x.plan(5, 7);
        due("at first", x, 20, 1, 4, 7);
        for (int t = 0; t < 20; t++) {
            x.load(100 + t, 60);
            x.lose(100 + t, true);
        }
        due("LOADS and LOST METERS tell nothing", x, 20, 1, 4, 7);
        x.tick(110);
        due("nor TICKS that were", x, 20, 1, 4, 7);
        x.worst(6, 60, 0);
        due("nor worst()", x, 20, 1, 4, 7);
        x.swing(60, 0);
        due("nor swing()", x, 20, 1, 4, 7);
        x.tick(90);
        due("nor the end", x, 20, 1, 4, 7);
    }

    private static void outside() {
        for (int a : Make.outside(0, 60)) {
            Calls.refused("swing(" + a + ", 0)", MoreHands.OUTSIDE, x -> x.swing(a, 0));
            Calls.refused("swing(" + a + ", 3)", MoreHands.OUTSIDE, x -> x.swing(a, 3));
        }
        for (int what : Make.outside(0, 2)) {
            Calls.refused("swing(0, " + what + ")", MoreHands.OUTSIDE, x -> x.swing(0, what));
        }
        Calls.changeNothing("swing(0, 0)", x -> x.swing(0, 0));
        Calls.changeNothing("swing(60, 2)", x -> x.swing(60, 2));
    }
}
