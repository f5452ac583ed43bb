public final class Promise14WorstTest {
    public static void main(String[] args) {
        everyLengthAndLoad();
        tenMoreTicks();
        firstOfSeveral();
        bitsOfTheRow();
        byTheseSettingsAndPlan();
        fromABeginning();
        outside();
        Due.end();
    }

    private static void everyLengthAndLoad() {
        MoreHands x = Make.with(Make.LEAST, 0, Make.MOST, 0);
        for (int n = 1; n <= 6; n++) {
            for (int a : new int[] {1, 2, 59, 60}) {
                Due.is("all are LOST: worst(" + n + ", " + a + ", 0)", x.worst(n, a, 0), a * n);
                Due.is("all of the row: worst(" + n + ", " + a + ", 1)", x.worst(n, a, 1), (1 << n) - 1);
            }
        }
    }

    private static void tenMoreTicks() {
        // Nobody serves: those of TICK 0 are LOST in TICK 11, those of TICK 1 in TICK 12.
        MoreHands x = Make.with(Make.LEAST, 0, Make.MOST, 0, Make.TRIES, 4);
        Due.is("11 TICKS are told", x.worst(1, 9, 0), 0);
        Due.is("the first row", x.worst(1, 9, 1), 0);
        for (int n = 2; n <= 6; n++) {
            Due.is("of the loads n - 1 are LOST: worst(" + n + ", 9, 0)", x.worst(n, 9, 0), 9 * (n - 1));
            Due.is("the last one is 0: worst(" + n + ", 9, 1)", x.worst(n, 9, 1), (1 << n - 1) - 1);
        }
        Make.change(x, Make.PATIENCE, 10, Make.TRIES, 1);
        Due.is("10 TICKS of PATIENCE end in 11", x.worst(1, 60, 0), 60);
        Make.change(x, Make.PATIENCE, 6, Make.TRIES, 2);
        Due.is("12 TICKS of PATIENCE do not", x.worst(1, 60, 0), 0);
        // PLAN of hour 10 is hours behind: loads behind the row are 0.
        MoreHands y = Make.with(Make.LEAST, 0, Make.MOST, 0, Make.PATIENCE, 1);
        Due.is("no load comes behind the row", y.worst(6, 60, 0), 360);
    }

    private static void firstOfSeveral() {
        MoreHands x = Make.with(Make.LEAST, 0, Make.PATIENCE, 1, Make.WARM, 0, Make.LATE, 1);
        Due.is("the first one that comes alone is LOST", x.worst(2, 10, 0), 10);
        Due.is("0, a goes ahead of a, 0", x.worst(2, 10, 1), 2);
        Due.is("0, 0, a goes ahead of all", x.worst(3, 10, 1), 4);
        Due.is("and 0, 0, 0, a", x.worst(4, 10, 1), 8);
        // What came up for the first one is OUT again three TICKS later, so a fourth later one more is LOST.
        Due.is("two that come alone", x.worst(6, 10, 0), 20);
        Due.is("0, a, 0, 0, 0, a", x.worst(6, 10, 1), 34);
        MoreHands y = new MoreHands();
        for (int n = 1; n <= 6; n++) {
            Due.is("none is LOST", y.worst(n, 12, 0), 0);
            Due.is("the row of zeros", y.worst(n, 12, 1), 0);
        }
    }

    private static void bitsOfTheRow() {
        for (int n = 1; n <= 6; n++) {
            for (int up = 0; up <= n; up++) {
                // None is UP ahead of TICK up, and then enough.
                MoreHands x = Make.with(Make.KIND, 0, Make.LEAST, 0, Make.WARM, 0, Make.PATIENCE, 1, Make.RATE, 10);
                x.plan(up, 4);
                Due.is("LOST ahead of TICK " + up + " of " + n, x.worst(n, 40, 0), 40 * up);
                Due.is("bits ahead of TICK " + up + " of " + n, x.worst(n, 40, 1), (1 << up) - 1);
                // Enough are UP till they begin to drain in TICK up.
                MoreHands y = Make.with(Make.KIND, 2, Make.LEAST, 0, Make.WARM, 0, Make.PATIENCE, 1, Make.RATE, 10,
                    Make.HIGH, 400, Make.LOW, 400, Make.DOWN, 6, Make.DRAIN, 0);
                for (int hour = 0; hour < Math.max(up, 1); hour++) {
                    y.plan(hour, 4);
                }
                int first = Math.min(Math.max(up, 1) + 1, n);
                Due.is("LOST from TICK " + first + " of " + n, y.worst(n, 40, 0), 40 * (n - first));
                Due.is("bits from TICK " + first + " of " + n, y.worst(n, 40, 1), (1 << n) - (1 << first));
            }
        }
    }

    private static void byTheseSettingsAndPlan() {
        MoreHands x = Make.with(Make.KIND, 0, Make.LEAST, 0, Make.MOST, 1, Make.PATIENCE, 1, Make.WARM, 0);
        Due.is("none is UP", x.worst(2, 30, 0), 60);
        x.plan(1, 1);
        Due.is("by PLAN", x.worst(2, 30, 0), 55);
        Make.change(x, Make.RATE, 20);
        Due.is("by RATE", x.worst(2, 30, 0), 40);
        Make.change(x, Make.LEAST, 1);
        Due.is("by LEAST", x.worst(2, 30, 0), 20);
    }

    private static void fromABeginning() {
        MoreHands x = Make.with(Make.LEAST, 0, Make.MOST, 1, Make.PATIENCE, 1, Make.WARM, 0);
        Due.is("at first", x.worst(2, 30, 0), 50);
        for (int t = 0; t < 20; t++) {
            x.load(t, 60);
            x.lose(t, true);
        }
        Due.is("LOADS and LOST METERS tell nothing", x.worst(2, 30, 0), 50);
        x.tick(5);
        Due.is("nor TICKS that were", x.worst(2, 30, 0), 50);
        x.swing(60, 0);
        Due.is("nor swing()", x.worst(2, 30, 0), 50);
        x.worst(6, 60, 0);
        Due.is("nor worst()", x.worst(2, 30, 0), 50);
        x.tick(195);
        Due.is("nor the end", x.worst(2, 30, 0), 50);
    }

    private static void outside() {
        for (int n : Make.outside(1, 6)) {
            Calls.refused("worst(" + n + ", 1, 0)", MoreHands.OUTSIDE, x -> x.worst(n, 1, 0));
        }
        for (int a : Make.outside(1, 60)) {
            Calls.refused("worst(1, " + a + ", 0)", MoreHands.OUTSIDE, x -> x.worst(1, a, 0));
        }
        for (int what : Make.outside(0, 1)) {
            Calls.refused("worst(1, 1, " + what + ")", MoreHands.OUTSIDE, x -> x.worst(1, 1, what));
        }
        Calls.refused("worst(0, 0, -1)", MoreHands.OUTSIDE, x -> x.worst(0, 0, -1));
        Calls.changeNothing("worst(1, 1, 0)", x -> x.worst(1, 1, 0));
        Calls.changeNothing("worst(6, 60, 1)", x -> x.worst(6, 60, 1));
    }
}
