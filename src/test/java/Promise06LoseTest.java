public final class Promise06LoseTest {
    public static void main(String[] args) {
        MoreHands x = new MoreHands();
        Due.is("lose(0, true)", x.lose(0, true), 0);
        Due.is("lose(0, true) again", x.lose(0, true), 1);
        Due.is("lose(0, false)", x.lose(0, false), 1);
        Due.is("lose(0, false) again", x.lose(0, false), 0);
        Due.is("lose(199, true)", x.lose(199, true), 0);
        Due.is("lose(199, false)", x.lose(199, false), 1);
        Due.refused("lose(-1, true)", x, () -> x.lose(-1, true), MoreHands.OUTSIDE);
        Due.refused("lose(200, true)", x, () -> x.lose(200, true), MoreHands.OUTSIDE);
        Due.is("lose(MIN, true)", x.lose(Integer.MIN_VALUE, true), MoreHands.OUTSIDE);
        Due.is("lose(MAX, true)", x.lose(Integer.MAX_VALUE, true), MoreHands.OUTSIDE);

        x.load(0, 20);
        x.load(1, 60);
        x.lose(1, true);
        x.tick(1);
        Due.is("READING", x.now(6), 20);
        Due.refused("lose(0, true) of a TICK that was", x, () -> x.lose(0, true), MoreHands.NOT);
        x.tick(1);
        Due.is("READING stays as it was", x.now(6), 20);
        Due.is("WANTED is by it", x.now(7), 4);
        Due.is("how many waited all the same", x.was(1, 0), 80);
        x.again();
        Due.is("LOST METERS stay", x.lose(1, true), 1);
        Due.is("LOST METERS stay", x.lose(0, false), 0);
        Due.end();
    }
}
