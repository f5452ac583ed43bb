public final class Promise15SwingTest {
    public static void main(String[] args) {
        MoreHands x = new MoreHands();
        due(x, 0, 0, 1, 1);
        due(x, 20, 0, 4, 4);
        due(x, 60, 0, 12, 12);
        x.plan(0, 3);
        due(x, 0, 1, 1, 3);
        due(x, 20, 0, 4, 4);
        x.setting(10, 0);
        due(x, 60, 0, 3, 3);
        x.plan(0, 0);

        x.setting(10, 2);
        x.setting(9, 10);
        x.setting(5, 3);
        Due.is("a late METER swings", x.swing(13, 0), 1);

        for (int t = 0; t < 20; t++) {
            x.load(t, 60);
            x.lose(t, true);
        }
        int most = x.swing(13, 2);
        x.tick(5);
        String before = Seen.of(x);
        Due.is("LOADS, LOST METERS and TICKS that were tell nothing", x.swing(13, 0), 1);
        Due.is("the most", x.swing(13, 2), most);
        Due.same("swing changes nothing", Seen.of(x), before);
        x.worst(6, 60, 0);
        Due.is("worst leaves nothing behind", x.swing(13, 2), most);

        MoreHands y = new MoreHands();
        y.setting(7, 0);
        y.setting(8, 0);
        due(y, 60, 0, 0, 0);

        for (int wrong : new int[] {-1, 61, Integer.MIN_VALUE, Integer.MAX_VALUE}) {
            Due.is("swing(" + wrong + ", 0)", x.swing(wrong, 0), MoreHands.OUTSIDE);
        }
        for (int wrong : new int[] {-1, 3, Integer.MIN_VALUE, Integer.MAX_VALUE}) {
            Due.is("swing(0, " + wrong + ")", x.swing(0, wrong), MoreHands.OUTSIDE);
        }
        Due.refused("swing(61, 0)", x, () -> x.swing(61, 0), MoreHands.OUTSIDE);
        Due.end();
    }

    private static void due(MoreHands x, int a, int swings, int fewest, int most) {
        Due.is("swing(" + a + ", 0)", x.swing(a, 0), swings);
        Due.is("swing(" + a + ", 1)", x.swing(a, 1), fewest);
        Due.is("swing(" + a + ", 2)", x.swing(a, 2), most);
    }
}
