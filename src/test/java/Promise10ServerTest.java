public final class Promise10ServerTest {
    public static void main(String[] args) {
        whatItIs();
        ticksBehindItsBeginning();
        everyServer();
        unknown();
        outside();
        Due.end();
    }

    private static void whatItIs() {
        MoreHands x = Make.with(Make.KIND, 0, Make.WARM, 3, Make.DRAIN, 3);
        Make.loads(x, 5);
        Due.is("OUT", x.server(0, 0), 0);
        Due.is("of an OUT one", x.server(0, 1), 0);
        for (int behind = 0; behind < 3; behind++) {
            x.tick(1);
            Due.is("WARMING", x.server(0, 0), 1);
            Due.is("TICKS behind its beginning", x.server(0, 1), behind);
        }
        x.tick(1);
        Due.is("SERVING", x.server(0, 0), 2);
        Due.is("of a SERVING one", x.server(0, 1), 0);
        Make.change(x, Make.LEAST, 0, Make.MOST, 0);
        for (int behind = 0; behind < 3; behind++) {
            x.tick(1);
            Due.is("DRAINING", x.server(0, 0), 3);
            Due.is("TICKS behind its beginning", x.server(0, 1), behind);
        }
        x.tick(1);
        Due.is("OUT again", x.server(0, 0), 0);
        Due.is("of an OUT one", x.server(0, 1), 0);
    }

    private static void ticksBehindItsBeginning() {
        MoreHands x = Make.with(Make.KIND, 0, Make.WARM, 5, Make.LEAST, 2);
        x.tick(3);
        Due.is("two TICKS behind", x.server(1, 1), 2);
        x.fail(1, false);
        Due.is("of one that failed", x.server(1, 1), 0);
        x.tick(1);
        Due.is("it began anew", x.server(1, 1), 0);
        Due.is("the other one goes on", x.server(0, 1), 3);
        x.tick(0);
        Due.is("tick(0) adds none", x.server(0, 1), 3);
        x.again();
        Due.is("behind again()", x.server(0, 1), 0);
        MoreHands y = Make.with(Make.KIND, 0, Make.LEAST, 0, Make.WARM, 5);
        y.tick(195);
        Make.change(y, Make.LEAST, 1);
        y.tick(5);
        Due.is("four TICKS behind at the end", y.server(0, 1), 4);
    }

    private static void everyServer() {
        MoreHands x = new MoreHands();
        for (int server = 0; server < 12; server++) {
            Due.is("server(" + server + ", 0)", x.server(server, 0), 0);
            Due.is("server(" + server + ", 1)", x.server(server, 1), 0);
        }
        Make.change(x, Make.LEAST, 12, Make.WARM, 5);
        x.tick(2);
        for (int server = 0; server < 12; server++) {
            Due.is("server(" + server + ", 0)", x.server(server, 0), 1);
            Due.is("server(" + server + ", 1)", x.server(server, 1), 1);
        }
    }

    private static void unknown() {
        for (int server : Make.outside(0, 11)) {
            for (int what : new int[] {0, 1, 2, -1, Make.MIN_INT, Make.MAX_INT}) {
                Calls.refused("server(" + server + ", " + what + ")", MoreHands.UNKNOWN, x -> x.server(server, what));
            }
        }
    }

    private static void outside() {
        for (int what : Make.outside(0, 1)) {
            Calls.refused("server(0, " + what + ")", MoreHands.OUTSIDE, x -> x.server(0, what));
            Calls.refused("server(11, " + what + ")", MoreHands.OUTSIDE, x -> x.server(11, what));
        }
        Calls.changeNothing("server(0, 0)", x -> x.server(0, 0));
        Calls.changeNothing("server(11, 1)", x -> x.server(11, 1));
    }
}
