public final class Promise03ToldTest {
    public static void main(String[] args) {
        MoreHands x = new MoreHands();
        int[] other = {4, 3, 17, 9, 2, 5, 4, 2, 11, 8, 2, 33, 399, 7, 6, 5, 99, 3, 1000};
        for (int what = 0; what < other.length; what++) {
            x.setting(what, other[what]);
        }
        for (int what = 0; what < other.length; what++) {
            Due.is("told(" + what + ")", x.told(what), other[what]);
        }
        x.tick(5);
        x.again();
        for (int what = 0; what < other.length; what++) {
            Due.is("told(" + what + ") behind again()", x.told(what), other[what]);
        }
        for (int what : new int[] {-1, 19, Integer.MIN_VALUE, Integer.MAX_VALUE}) {
            Due.is("told(" + what + ")", x.told(what), MoreHands.OUTSIDE);
        }
        Due.refused("told(19)", x, () -> x.told(19), MoreHands.OUTSIDE);
        Due.end();
    }
}
