public final class Promise08FailTest {
    public static void main(String[] args) {
        MoreHands x = new MoreHands();
        x.setting(10, 0);
        x.setting(7, 10);
        Due.is("an OUT one", x.fail(0, false), 0);
        Due.is("an OUT SPOT one", x.fail(11, true), 0);
        x.tick(1);
        Due.is("a WARMING one", x.fail(9, false), 1);
        Due.is("it is OUT", x.server(9, 0), 0);
        x.tick(1);
        Due.is("a SERVING one", x.fail(0, false), 2);
        Due.is("it is OUT", x.server(0, 0), 0);
        Due.is("a SPOT one is TAKEN BACK", x.fail(8, true), 2);
        Due.is("it is OUT", x.server(8, 0), 0);
        Due.is("UP", x.now(8), 8);
        x.setting(7, 0);
        x.setting(8, 5);
        x.tick(1);
        Due.is("a DRAINING one", x.fail(7, false), 3);
        Due.is("its TICKS", x.server(7, 1), 0);
        Due.is("once more", x.fail(7, false), 0);
        Due.is("to FAIL is no change", x.now(11), 1);
        Due.is("what was stays", x.was(0, 3), 10);

        for (int server : new int[] {-1, 12, Integer.MIN_VALUE, Integer.MAX_VALUE}) {
            Due.is("fail(" + server + ", false)", x.fail(server, false), MoreHands.UNKNOWN);
            Due.is("fail(" + server + ", true)", x.fail(server, true), MoreHands.UNKNOWN);
        }
        Due.refused("fail(12, true)", x, () -> x.fail(12, true), MoreHands.UNKNOWN);
        for (int server = 0; server < 8; server++) {
            Due.is("fail(" + server + ", true)", x.fail(server, true), MoreHands.NOT);
        }
        for (int server = 8; server < 12; server++) {
            Due.is("fail(" + server + ", true)", x.fail(server, true), 0);
        }
        MoreHands y = new MoreHands();
        y.tick(3);
        Due.refused("fail(0, true)", y, () -> y.fail(0, true), MoreHands.NOT);
        y.fail(0, false);
        y.tick(1);
        Due.is("it may begin again", y.server(0, 0), 1);
        Due.end();
    }
}
