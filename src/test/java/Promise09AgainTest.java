public final class Promise09AgainTest {
    public static void main(String[] args) {
        howManyTicksWere();
        fromTheBeginning();
        settingsAndLoadsStay();
        goesOnLikeANewOne();
        Due.end();
    }

    private static void howManyTicksWere() {
        MoreHands x = new MoreHands();
        Due.is("none were", x.again(), 0);
        x.tick(1);
        Due.is("one was", x.again(), 1);
        Due.is("none were", x.again(), 0);
        x.tick(200);
        Due.is("all were", x.again(), 200);
        Due.is("NOW", x.now(0), 0);
        Due.is("in the middle", Scene.IN_THE_MIDDLE.make().again(), Scene.MIDDLE);
        Due.is("at the end", Scene.AT_THE_END.make().again(), 200);
    }

    private static void fromTheBeginning() {
        for (Scene scene : Scene.values()) {
            MoreHands x = scene.make();
            x.again();
            int[] now = {0, 0, 0, 0, 0, 0, 0, -1, 0, 0, 0, -1, 0};
            for (int what = 0; what < now.length; what++) {
                Due.is(scene + ": now(" + what + ")", x.now(what), now[what]);
            }
            for (int server = 0; server < 12; server++) {
                Due.is(scene + ": server(" + server + ", 0)", x.server(server, 0), 0);
                Due.is(scene + ": server(" + server + ", 1)", x.server(server, 1), 0);
            }
            for (int what = 0; what <= 5; what++) {
                Due.is(scene + ": was(0, " + what + ")", x.was(0, what), MoreHands.NOT);
                Due.is(scene + ": was(199, " + what + ")", x.was(199, what), MoreHands.NOT);
            }
            Due.is(scene + ": digest()", x.digest(), new MoreHands().digest());
        }
    }

    private static void settingsAndLoadsStay() {
        MoreHands x = Scene.AT_THE_END.make();
        x.again();
        MoreHands y = Scene.NEW.make();
        begin(y);
        y.tick(7);
        y.again();
        for (int what = 0; what < Make.SETTINGS; what++) {
            Due.is("SETTING " + what + " stays", x.told(what), Scene.IN_THE_MIDDLE.make().told(what));
        }
        Due.is("LOAD of TICK 0 stays", y.load(0, 0), 20);
        Due.is("LOAD of TICK 3 stays", y.load(3, 0), 50);
        Due.is("LOAD of TICK 7 stays", y.load(7, 0), 55);
        Due.is("LOAD of TICK 199 stays", x.load(199, 0), 60);
        Due.is("LOST METER of TICK 2 stays", y.lose(2, false), 1);
        Due.is("METER of TICK 1 stays", y.lose(1, false), 0);
        Due.is("LOST METER of TICK 199 stays", x.lose(199, false), 1);
        Due.is("PLAN of hour 4 stays", y.plan(4, 0), 6);
        Due.is("PLAN of hour 23 stays", x.plan(23, 0), 12);
    }

    private static void goesOnLikeANewOne() {
        for (int were : new int[] {1, 9, 200}) {
            MoreHands x = new MoreHands();
            begin(x);
            x.tick(were);
            x.again();
            MoreHands fresh = new MoreHands();
            begin(fresh);
            for (int t = 0; t < 30; t++) {
                x.tick(1);
                fresh.tick(1);
                Due.is("digest in TICK " + t + " behind " + were + " and again()", x.digest(), fresh.digest());
                for (int what = 0; what <= 5; what++) {
                    Due.is("was(" + t + ", " + what + ")", x.was(t, what), fresh.was(t, what));
                }
            }
        }
    }

    private static void begin(MoreHands x) {
        Make.change(x, Make.TRIES, 3, Make.PATIENCE, 2, Make.RATE, 1, Make.LATE, 1, Make.MEAN, 4, Make.REST, 3);
        for (int t = 0; t < 8; t++) {
            x.load(t, 20 + 5 * t);
        }
        x.load(3, 50);
        x.lose(2, true);
        x.plan(4, 6);
    }
}
