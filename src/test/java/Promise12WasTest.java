public final class Promise12WasTest {
    public static void main(String[] args) {
        MoreHands x = new MoreHands();
        x.setting(2, 2);
        x.setting(3, 2);
        x.setting(4, 2);
        x.setting(8, 2);
        x.load(0, 12);
        x.load(1, 3);
        x.tick(6);
        due(x, 0, 12, 0, 0, 2, 2, 20);
        due(x, 1, 15, 4, 0, 2, 2, 20);
        due(x, 2, 11, 4, 0, 2, 2, 20);
        due(x, 3, 7, 4, 3, 2, 2, 170);
        due(x, 4, 0, 0, 0, 1, 1, 20);
        due(x, 5, 0, 0, 0, 1, 1, 20);

        x.setting(16, 90);
        x.setting(18, 1);
        x.fail(0, false);
        due(x, 3, 7, 4, 3, 2, 2, 170);
        due(x, 5, 0, 0, 0, 1, 1, 20);

        for (int tick : new int[] {6, 7, 199}) {
            Due.is("was(" + tick + ", 0)", x.was(tick, 0), MoreHands.NOT);
            Due.is("OUTSIDE ahead of NOT", x.was(tick, 6), MoreHands.OUTSIDE);
        }
        for (int tick : new int[] {-1, 200, Integer.MIN_VALUE, Integer.MAX_VALUE}) {
            Due.is("was(" + tick + ", 0)", x.was(tick, 0), MoreHands.OUTSIDE);
        }
        for (int what : new int[] {-1, 6, Integer.MIN_VALUE, Integer.MAX_VALUE}) {
            Due.is("was(0, " + what + ")", x.was(0, what), MoreHands.OUTSIDE);
        }
        Due.refused("was(6, 0)", x, () -> x.was(6, 0), MoreHands.NOT);
        Due.refused("was(0, 6)", x, () -> x.was(0, 6), MoreHands.OUTSIDE);
        x.tick(194);
        Due.is("was(199, 3)", x.was(199, 3), 1);
        x.again();
        Due.is("behind again()", x.was(0, 0), MoreHands.NOT);
        Due.end();
    }

    private static void due(MoreHands x, int tick, int... due) {
        for (int what = 0; what < due.length; what++) {
            Due.is("was(" + tick + ", " + what + ")", x.was(tick, what), due[what]);
        }
    }
}
