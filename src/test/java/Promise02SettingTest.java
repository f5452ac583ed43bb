public final class Promise02SettingTest {
    static final int[][] BOUNDS = {
        {0, 5}, {0, 5}, {1, 20}, {1, 10}, {1, 4}, {0, 5}, {1, 5}, {0, 12}, {0, 12}, {0, 10}, {0, 2},
        {1, 60}, {0, 400}, {0, 400}, {1, 6}, {1, 6}, {0, 100}, {0, 100}, {0, 1000}};
    static final int[] FIRST = {1, 1, 5, 3, 1, 0, 1, 1, 12, 0, 1, 5, 10, 2, 1, 1, 10, 4, 50};

    public static void main(String[] args) {
        for (int what = 0; what < BOUNDS.length; what++) {
            eachBound(what);
        }
        noSuchSetting();
        leastAboveMost();
        settingsActFromTheNextTick();
        Due.end();
    }

    private static void eachBound(int what) {
        MoreHands x = new MoreHands();
        int lowest = BOUNDS[what][0];
        int highest = BOUNDS[what][1];
        if (what == 8) {
            x.setting(7, 0);
        }
        String call = "setting(" + what + ", ";
        Due.is(call + "lowest)", x.setting(what, lowest), FIRST[what]);
        Due.is("told(" + what + ")", x.told(what), lowest);
        Due.is(call + "highest)", x.setting(what, highest), lowest);
        Due.is("told(" + what + ")", x.told(what), highest);
        Due.is(call + "highest) once more", x.setting(what, highest), highest);
        for (int other = 0; other < BOUNDS.length; other++) {
            boolean changed = other == what || what == 8 && other == 7;
            if (!changed) {
                Due.is("told(" + other + ") behind " + call + "..)", x.told(other), FIRST[other]);
            }
        }
        MoreHands y = new MoreHands();
        for (int v : new int[] {lowest - 1, highest + 1}) {
            Due.refused(call + v + ")", y, () -> y.setting(what, v), MoreHands.OUTSIDE);
        }
        Due.is(call + "MIN)", y.setting(what, Integer.MIN_VALUE), MoreHands.OUTSIDE);
        Due.is(call + "MAX)", y.setting(what, Integer.MAX_VALUE), MoreHands.OUTSIDE);
        Due.is("told(" + what + ")", y.told(what), FIRST[what]);
    }

    private static void noSuchSetting() {
        MoreHands x = new MoreHands();
        for (int what : new int[] {-1, 19, Integer.MIN_VALUE, Integer.MAX_VALUE}) {
            Due.is("setting(" + what + ", 1)", x.setting(what, 1), MoreHands.OUTSIDE);
        }
        Due.refused("setting(19, 1)", x, () -> x.setting(19, 1), MoreHands.OUTSIDE);
    }

    private static void leastAboveMost() {
        MoreHands x = new MoreHands();
        Due.refused("MOST below LEAST", x, () -> x.setting(8, 0), MoreHands.OUTSIDE);
        Due.is("MOST as LEAST", x.setting(8, 1), 12);
        Due.refused("LEAST above MOST", x, () -> x.setting(7, 2), MoreHands.OUTSIDE);
        Due.is("LEAST 0", x.setting(7, 0), 1);
        Due.is("MOST 0", x.setting(8, 0), 1);
        Due.is("LEAST 1", x.setting(7, 1), MoreHands.OUTSIDE);
        Due.is("MOST 12", x.setting(8, 12), 0);
        Due.is("LEAST 12", x.setting(7, 12), 0);
        Due.is("MOST 11", x.setting(8, 11), MoreHands.OUTSIDE);
    }

    private static void settingsActFromTheNextTick() {
        MoreHands x = new MoreHands();
        x.setting(7, 3);
        Due.is("UP ahead of a TICK", x.now(8), 0);
        x.tick(1);
        Due.is("UP", x.now(8), 3);
        x.setting(16, 100);
        Due.is("BILL of the TICK that was", x.now(5), 30);
        x.tick(1);
        Due.is("BILL: LEAST 3, PRICE 100", x.now(5), 330);
    }
}
