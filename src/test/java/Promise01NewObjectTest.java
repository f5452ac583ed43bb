public final class Promise01NewObjectTest {
    public static void main(String[] args) {
        MoreHands x = new MoreHands();
        int[] now = {0, 0, 0, 0, 0, 0, 0, -1, 0, 0, 0, -1, 0};
        for (int what = 0; what < now.length; what++) {
            Due.is("now(" + what + ")", x.now(what), now[what]);
        }
        int[] told = {1, 1, 5, 3, 1, 0, 1, 1, 12, 0, 1, 5, 10, 2, 1, 1, 10, 4, 50};
        for (int what = 0; what < told.length; what++) {
            Due.is("told(" + what + ")", x.told(what), told[what]);
        }
        for (int server = 0; server < 12; server++) {
            Due.is("server(" + server + ", 0)", x.server(server, 0), 0);
            Due.is("server(" + server + ", 1)", x.server(server, 1), 0);
        }
        for (int hour = 0; hour < 24; hour++) {
            Due.is("plan(" + hour + ", 0)", x.plan(hour, 0), 0);
        }
        for (int tick = 0; tick < 200; tick++) {
            Due.is("load(" + tick + ", 0)", x.load(tick, 0), 0);
        }
        MoreHands y = new MoreHands();
        for (int tick = 0; tick < 200; tick++) {
            Due.is("lose(" + tick + ", false)", y.lose(tick, false), 0);
        }
        Due.is("was(0, 0)", y.was(0, 0), MoreHands.NOT);
        Due.is("NONE", MoreHands.NONE, -1);
        Due.is("UNKNOWN", MoreHands.UNKNOWN, -1001);
        Due.is("OUTSIDE", MoreHands.OUTSIDE, -1002);
        Due.is("NOT", MoreHands.NOT, -1003);
        objectsAreApart();
        Due.end();
    }

    private static void objectsAreApart() {
        MoreHands x = new MoreHands();
        MoreHands y = new MoreHands();
        String before = Seen.of(y);
        x.setting(3, 7);
        x.plan(0, 3);
        x.load(0, 60);
        x.lose(0, true);
        x.tick(3);
        x.worst(2, 30, 0);
        x.swing(20, 0);
        x.hindsight(4);
        Due.same("another object's calls", Seen.of(y), before);
    }
}
