public final class Promise02SettingTest {
    public static void main(String[] args) {
        for (int what = 0; what < Make.SETTINGS; what++) {
            insideTheBounds(what);
            outsideTheBounds(what);
        }
        noSuchSetting();
        leastAboveMost();
        actsFromTheNextTick();
        atAnyTime();
        Due.end();
    }

    private static void insideTheBounds(int what) {
        MoreHands x = new MoreHands();
        int lowest = Make.BOUNDS[what][0];
        int highest = Make.BOUNDS[what][1];
        if (what == Make.MOST) {
            x.setting(Make.LEAST, 0);
        }
        String call = "setting(" + what + ", ";
        Due.is(call + "lowest)", x.setting(what, lowest), Make.BOUNDS[what][2]);
        Due.is("told(" + what + ")", x.told(what), lowest);
        Due.is(call + "highest)", x.setting(what, highest), lowest);
        Due.is("told(" + what + ")", x.told(what), highest);
        Due.is(call + "highest) once more", x.setting(what, highest), highest);
        for (int other = 0; other < Make.SETTINGS; other++) {
            boolean changed = other == what || what == Make.MOST && other == Make.LEAST;
            if (!changed) {
                Due.is("told(" + other + ") behind " + call + "..)", x.told(other), Make.BOUNDS[other][2]);
            }
        }
        for (int v = lowest; v <= Math.min(highest, lowest + 100); v++) {
            x.setting(what, v);
            Due.is("told(" + what + ")", x.told(what), v);
        }
    }

    private static void outsideTheBounds(int what) {
        for (int v : Make.outside(Make.BOUNDS[what][0], Make.BOUNDS[what][1])) {
            if (v < Make.BOUNDS[what][0] || v > Make.BOUNDS[what][1]) {
                Calls.refused("setting(" + what + ", " + v + ")", MoreHands.OUTSIDE, x -> x.setting(what, v));
            }
        }
    }

    private static void noSuchSetting() {
        for (int what : Make.outside(0, 18)) {
            for (int v : new int[] {1, 0, Make.MIN_INT, Make.MAX_INT}) {
                Calls.refused("setting(" + what + ", " + v + ")", MoreHands.OUTSIDE, x -> x.setting(what, v));
            }
        }
    }

    private static void leastAboveMost() {
        // LEAST is 1 and MOST is 12 at first; 2 and 11 in the scenes behind that.
        Calls.refused(Scene.NEW, "MOST 0 below LEAST 1", MoreHands.OUTSIDE, x -> x.setting(Make.MOST, 0));
        Calls.refused(Scene.IN_THE_MIDDLE, "MOST 1 below LEAST 2", MoreHands.OUTSIDE, x -> x.setting(Make.MOST, 1));
        Calls.refused(Scene.IN_THE_MIDDLE, "LEAST 12 above MOST 11", MoreHands.OUTSIDE, x -> x.setting(Make.LEAST, 12));
        Calls.refused(Scene.AT_THE_END, "MOST 0 below LEAST 2", MoreHands.OUTSIDE, x -> x.setting(Make.MOST, 0));
        MoreHands x = new MoreHands();
        Due.is("MOST as LEAST", x.setting(Make.MOST, 1), 12);
        Due.is("LEAST 2 above MOST 1", x.setting(Make.LEAST, 2), MoreHands.OUTSIDE);
        Due.is("LEAST stays 1", x.told(Make.LEAST), 1);
        Due.is("LEAST 0", x.setting(Make.LEAST, 0), 1);
        Due.is("MOST 0", x.setting(Make.MOST, 0), 1);
        Due.is("LEAST 1 above MOST 0", x.setting(Make.LEAST, 1), MoreHands.OUTSIDE);
        Due.is("MOST 12", x.setting(Make.MOST, 12), 0);
        Due.is("LEAST as MOST", x.setting(Make.LEAST, 12), 0);
        Due.is("MOST 11 below LEAST 12", x.setting(Make.MOST, 11), MoreHands.OUTSIDE);
        Due.is("MOST 12 once more", x.setting(Make.MOST, 12), 12);
        Due.is("LEAST 12 once more", x.setting(Make.LEAST, 12), 12);
        Due.is("LOW above HIGH is in bounds", x.setting(Make.LOW, 400), 2);
    }

    private static void actsFromTheNextTick() {
        MoreHands x = new MoreHands();
        x.setting(Make.LEAST, 3);
        Due.is("UP ahead of a TICK", x.now(8), 0);
        x.tick(1);
        Due.is("UP", x.now(8), 3);
        x.setting(Make.PRICE, 100);
        Due.is("BILL of the TICK that was", x.now(5), 30);
        x.tick(1);
        Due.is("BILL: LEAST 3, PRICE 100", x.now(5), 330);
    }

    private static void atAnyTime() {
        Due.is("in the middle", Scene.IN_THE_MIDDLE.make().setting(Make.PENALTY, 1000), 7);
        MoreHands x = Scene.AT_THE_END.make();
        Due.is("at the end", x.setting(Make.PENALTY, 1000), 7);
        Due.is("told at the end", x.told(Make.PENALTY), 1000);
    }
}
