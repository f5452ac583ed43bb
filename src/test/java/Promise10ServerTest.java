public final class Promise10ServerTest {
    public static void main(String[] args) {
        MoreHands x = new MoreHands();
        x.setting(10, 0);
        x.setting(0, 3);
        x.setting(1, 3);
        x.setting(7, 1);
        x.load(0, 5);
        Due.is("OUT", x.server(0, 0), 0);
        Due.is("of an OUT one", x.server(0, 1), 0);
        for (int behind = 0; behind < 3; behind++) {
            x.tick(1);
            Due.is("WARMING", x.server(0, 0), 1);
            Due.is("TICKS behind its beginning", x.server(0, 1), behind);
        }
        x.tick(1);
        Due.is("SERVING", x.server(0, 0), 2);
        Due.is("of a SERVING one", x.server(0, 1), 0);
        x.setting(7, 0);
        x.setting(8, 0);
        for (int behind = 0; behind < 3; behind++) {
            x.tick(1);
            Due.is("DRAINING", x.server(0, 0), 3);
            Due.is("TICKS behind its beginning", x.server(0, 1), behind);
        }
        x.tick(1);
        Due.is("OUT again", x.server(0, 0), 0);
        Due.is("of an OUT one", x.server(0, 1), 0);
        Due.is("server(11, 0)", x.server(11, 0), 0);
        Due.is("server(11, 1)", x.server(11, 1), 0);

        for (int server : new int[] {-1, 12, Integer.MIN_VALUE, Integer.MAX_VALUE}) {
            Due.is("server(" + server + ", 0)", x.server(server, 0), MoreHands.UNKNOWN);
            Due.is("UNKNOWN ahead of OUTSIDE", x.server(server, 2), MoreHands.UNKNOWN);
        }
        for (int what : new int[] {-1, 2, Integer.MIN_VALUE, Integer.MAX_VALUE}) {
            Due.is("server(0, " + what + ")", x.server(0, what), MoreHands.OUTSIDE);
        }
        Due.refused("server(12, 0)", x, () -> x.server(12, 0), MoreHands.UNKNOWN);
        Due.refused("server(0, 2)", x, () -> x.server(0, 2), MoreHands.OUTSIDE);
        Due.end();
    }
}
