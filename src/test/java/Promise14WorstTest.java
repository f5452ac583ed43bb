public final class Promise14WorstTest {
    public static void main(String[] args) {
        nobodyServes();
        firstOfSeveral();
        fromTheBeginning();
        refusals();
        Due.end();
    }

    private static void nobodyServes() {
        MoreHands x = new MoreHands();
        x.setting(7, 0);
        x.setting(8, 0);
        for (int n = 1; n <= 6; n++) {
            Due.is("all are LOST", x.worst(n, 60, 0), 60 * n);
            Due.is("all of the row", x.worst(n, 60, 1), (1 << n) - 1);
        }
        Due.is("load 1", x.worst(6, 1, 0), 6);
        x.setting(4, 4);
        Due.is("12 TICKS of PATIENCE, 11 told", x.worst(1, 9, 0), 0);
        Due.is("12 TICKS of PATIENCE, 11 told: the first row", x.worst(1, 9, 1), 0);
        Due.is("12 TICKS told", x.worst(2, 9, 0), 9);
        Due.is("the second load tells nothing", x.worst(2, 9, 1), 1);
    }

    private static void firstOfSeveral() {
        MoreHands x = new MoreHands();
        x.setting(7, 0);
        x.setting(3, 1);
        x.setting(0, 0);
        x.setting(5, 1);
        Due.is("the first one that comes alone is LOST", x.worst(2, 10, 0), 10);
        Due.is("0, a goes ahead of a, 0", x.worst(2, 10, 1), 2);
        Due.is("0, 0, a goes ahead of all", x.worst(3, 10, 1), 4);
        Due.is("and 0, 0, 0, a", x.worst(4, 10, 1), 8);
        // What came up for the first one is OUT again three TICKS later, so a fourth later one more is LOST.
        Due.is("two that come alone", x.worst(6, 10, 0), 20);
        Due.is("0, a, 0, 0, 0, a", x.worst(6, 10, 1), 34);

        MoreHands y = new MoreHands();
        Due.is("none is LOST", y.worst(3, 12, 0), 0);
        Due.is("the row of zeros", y.worst(3, 12, 1), 0);
    }

    private static void fromTheBeginning() {
        MoreHands x = new MoreHands();
        x.setting(8, 1);
        x.setting(7, 0);
        x.setting(3, 1);
        x.setting(0, 0);
        x.setting(10, 0);
        Due.is("none is UP", x.worst(2, 30, 0), 60);
        x.plan(1, 1);
        Due.is("by PLAN", x.worst(2, 30, 0), 55);
        for (int t = 0; t < 20; t++) {
            x.load(t, 60);
            x.lose(t, true);
        }
        x.tick(5);
        String before = Seen.of(x);
        Due.is("LOADS and TICKS that were tell nothing", x.worst(2, 30, 0), 55);
        Due.same("worst changes nothing", Seen.of(x), before);
        x.setting(10, 1);
        x.plan(1, 0);
        Due.is("no METER is LOST", x.worst(2, 30, 0), 50);
        x.swing(60, 0);
        Due.is("swing leaves nothing behind", x.worst(2, 30, 0), 50);
    }

    private static void refusals() {
        MoreHands x = new MoreHands();
        for (int wrong : new int[] {0, -1, 7, Integer.MIN_VALUE, Integer.MAX_VALUE}) {
            Due.is("worst(" + wrong + ", 1, 0)", x.worst(wrong, 1, 0), MoreHands.OUTSIDE);
        }
        for (int wrong : new int[] {0, -1, 61, Integer.MIN_VALUE, Integer.MAX_VALUE}) {
            Due.is("worst(1, " + wrong + ", 0)", x.worst(1, wrong, 0), MoreHands.OUTSIDE);
        }
        for (int wrong : new int[] {-1, 2, Integer.MIN_VALUE, Integer.MAX_VALUE}) {
            Due.is("worst(1, 1, " + wrong + ")", x.worst(1, 1, wrong), MoreHands.OUTSIDE);
        }
        Due.refused("worst(7, 1, 0)", x, () -> x.worst(7, 1, 0), MoreHands.OUTSIDE);
    }
}
