/** The scene in the middle has of everything, or the tests that use it would show less than they say. */
public final class ScenesTest {
    public static void main(String[] args) {
        MoreHands x = Scene.IN_THE_MIDDLE.make();
        int[] found = new int[4];
        for (int server = 0; server < 12; server++) {
            int state = x.server(server, 0);
            Due.is("a state is 0 to 3", state >= 0 && state <= 3 ? 1 : 0, 1);
            found[state & 3]++;
        }
        for (int state = 0; state < 4; state++) {
            some("SERVERS in state " + state, found[state]);
        }
        Due.is("NOW", x.now(0), Scene.MIDDLE);
        some("some wait", x.now(1));
        some("some will try again", x.now(2));
        some("some were LOST", x.now(4));
        some("some READING", x.now(6));
        Due.is("NOW at the end", Scene.AT_THE_END.make().now(0), 200);
        Due.is("NOW of a new one", Scene.NEW.make().now(0), 0);
        Due.end();
    }

    private static void some(String what, int found) {
        Due.is(what + ": " + found, found > 0 ? 1 : 0, 1);
    }
}
