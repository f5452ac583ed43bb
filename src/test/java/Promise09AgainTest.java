public final class Promise09AgainTest {
    public static void main(String[] args) {
        MoreHands x = new MoreHands();
        Due.is("again() at once", x.again(), 0);
        begin(x);
        x.tick(9);
        Due.is("again()", x.again(), 9);
        int[] now = {0, 0, 0, 0, 0, 0, 0, -1, 0, 0, 0, -1, 0};
        for (int what = 0; what < now.length; what++) {
            Due.is("now(" + what + ")", x.now(what), now[what]);
        }
        for (int server = 0; server < 12; server++) {
            Due.is("server(" + server + ", 0)", x.server(server, 0), 0);
            Due.is("server(" + server + ", 1)", x.server(server, 1), 0);
        }
        Due.is("nothing was", x.was(0, 0), MoreHands.NOT);
        Due.is("SETTINGS stay", x.told(4), 3);

        MoreHands fresh = new MoreHands();
        begin(fresh);
        for (int t = 0; t < 30; t++) {
            x.tick(1);
            fresh.tick(1);
            Due.is("digest behind again() in TICK " + t, x.digest(), fresh.digest());
        }
        x.tick(170);
        Due.is("again() at the end", x.again(), 200);
        Due.is("again() twice", x.again(), 0);
        Due.is("LOADS stay", x.load(3, 0), 50);
        Due.is("PLAN stays", x.plan(4, 0), 6);
        Due.is("LOST METERS stay", x.lose(2, false), 1);
        Due.end();
    }

    private static void begin(MoreHands x) {
        x.setting(4, 3);
        x.setting(3, 2);
        x.setting(2, 1);
        x.setting(5, 1);
        x.setting(6, 4);
        x.setting(9, 3);
        for (int t = 0; t < 8; t++) {
            x.load(t, 20 + 10 * t);
        }
        x.load(3, 50);
        x.lose(2, true);
        x.plan(4, 6);
    }
}
