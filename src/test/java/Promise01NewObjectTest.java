public final class Promise01NewObjectTest {
    public static void main(String[] args) {
        constants();
        stateAtFirst();
        settingsAtFirst();
        plansAtFirst();
        loadsAtFirst();
        nothingWas();
        objectsAreApart();
        Due.end();
    }

    private static void constants() {
        Due.is("NONE", MoreHands.NONE, -1);
        Due.is("UNKNOWN", MoreHands.UNKNOWN, -1001);
        Due.is("OUTSIDE", MoreHands.OUTSIDE, -1002);
        Due.is("NOT", MoreHands.NOT, -1003);
    }

    private static void stateAtFirst() {
        MoreHands x = new MoreHands();
        int[] now = {0, 0, 0, 0, 0, 0, 0, -1, 0, 0, 0, -1, 0};
        for (int what = 0; what < now.length; what++) {
            Due.is("now(" + what + ")", x.now(what), now[what]);
        }
        for (int server = 0; server < 12; server++) {
            Due.is("server(" + server + ", 0)", x.server(server, 0), 0);
            Due.is("server(" + server + ", 1)", x.server(server, 1), 0);
        }
        Due.is("again() of a new one", x.again(), 0);
    }

    private static void settingsAtFirst() {
        MoreHands x = new MoreHands();
        for (int what = 0; what < Make.SETTINGS; what++) {
            Due.is("told(" + what + ")", x.told(what), Make.BOUNDS[what][2]);
        }
    }

    private static void plansAtFirst() {
        MoreHands x = new MoreHands();
        for (int hour = 0; hour < 24; hour++) {
            Due.is("plan(" + hour + ", 0)", x.plan(hour, 0), 0);
        }
    }

    private static void loadsAtFirst() {
        MoreHands x = new MoreHands();
        for (int tick = 0; tick < 200; tick++) {
            Due.is("load(" + tick + ", 0)", x.load(tick, 0), 0);
            Due.is("lose(" + tick + ", false)", x.lose(tick, false), 0);
        }
        MoreHands y = new MoreHands();
        y.tick(200);
        Due.is("nothing came in 200 TICKS", y.now(12), 0);
    }

    private static void nothingWas() {
        MoreHands x = new MoreHands();
        for (int what = 0; what <= 5; what++) {
            Due.is("was(0, " + what + ")", x.was(0, what), MoreHands.NOT);
        }
    }

    private static void objectsAreApart() {
        for (View view : View.values()) {
            MoreHands x = new MoreHands();
            MoreHands y = new MoreHands();
            x.setting(Make.PATIENCE, 7);
            x.plan(0, 3);
            x.load(0, 60);
            x.lose(0, true);
            x.tick(3);
            x.worst(2, 30, 0);
            x.swing(20, 0);
            x.hindsight(4);
            Due.same("another object's calls changed " + view, view.of(y), view.of(new MoreHands()));
        }
    }
}
