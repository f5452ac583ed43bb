public final class Promise08FailTest {
    public static void main(String[] args) {
        whatItWas();
        unknown();
        notASpotOne();
        itIsOut();
        Due.end();
    }

    private static void whatItWas() {
        MoreHands x = Make.with(Make.KIND, 0, Make.LEAST, 10);
        Due.is("an OUT one", x.fail(0, false), 0);
        Due.is("an OUT SPOT one", x.fail(11, true), 0);
        x.tick(1);
        Due.is("a WARMING one", x.fail(9, false), 1);
        x.tick(1);
        Due.is("a SERVING one", x.fail(0, false), 2);
        Due.is("a SPOT one is TAKEN BACK", x.fail(8, true), 2);
        Due.is("the one that began anew", x.fail(9, true), 1);
        Due.is("UP", x.now(8), 7);
        Make.change(x, Make.LEAST, 0, Make.MOST, 5);
        x.tick(1);
        Due.is("a DRAINING one", x.fail(7, false), 3);
        Due.is("its TICKS", x.server(7, 1), 0);
        Due.is("once more", x.fail(7, false), 0);
        MoreHands y = Make.with(Make.KIND, 0, Make.LEAST, 12, Make.WARM, 0, Make.DRAIN, 5);
        y.tick(1);
        Make.change(y, Make.LEAST, 0, Make.MOST, 0);
        y.tick(1);
        Due.is("a DRAINING SPOT one is TAKEN BACK", y.fail(11, true), 3);
        Due.is("a DRAINING SPOT one FAILS", y.fail(8, false), 3);
        Due.is("DRAINING", y.now(10), 10);
    }

    private static void unknown() {
        for (int server : Make.outside(0, 11)) {
            Calls.refused("fail(" + server + ", false)", MoreHands.UNKNOWN, x -> x.fail(server, false));
            Calls.refused("fail(" + server + ", true)", MoreHands.UNKNOWN, x -> x.fail(server, true));
        }
    }

    private static void notASpotOne() {
        for (int server = 0; server < 8; server++) {
            int s = server;
            Calls.refused("fail(" + s + ", true)", MoreHands.NOT, x -> x.fail(s, true));
        }
        for (int server = 8; server < 12; server++) {
            Due.is("fail(" + server + ", true)", new MoreHands().fail(server, true), 0);
        }
        for (int server = 0; server < 12; server++) {
            Due.is("fail(" + server + ", false)", new MoreHands().fail(server, false), 0);
        }
    }

    private static void itIsOut() {
        for (int server = 0; server < 12; server++) {
            for (int back = 0; back <= 1; back++) {
                MoreHands x = Make.with(Make.KIND, 0, Make.LEAST, 12, Make.WARM, 0);
                Make.loads(x, 60, 60);
                x.tick(1);
                String done = "SERVER " + server + (back == 1 ? " TAKEN BACK" : " FAILED");
                if (back == 1 && server < 8) {
                    continue;
                }
                Due.is(done, x.fail(server, back == 1), 2);
                for (int other = 0; other < 12; other++) {
                    Due.is(done + ": SERVER " + other, x.server(other, 0), other == server ? 0 : 2);
                }
                Due.is(done + ": UP", x.now(8), 11);
                Due.is(done + ": what was stays", x.was(0, 3), 12);
                Due.is(done + ": NOW", x.now(0), 1);
                Due.is(done + ": BILL", x.now(5), 96);
                Make.change(x, Make.LEAST, 0);
                x.tick(1);
                Due.is(done + ": done by the others", x.was(1, 1), 55);
            }
        }
        MoreHands z = new MoreHands();
        z.tick(2);
        Due.is("a SERVING one", z.fail(0, false), 2);
        z.tick(1);
        Due.is("it may begin again", z.server(0, 0), 1);
        Due.is("at the end", Scene.AT_THE_END.make().fail(11, true), Scene.AT_THE_END.make().server(11, 0));
    }
}
