public final class Promise03ToldTest {
    public static void main(String[] args) {
        MoreHands x = new MoreHands();
        int[] other = {4, 3, 17, 9, 2, 5, 4, 2, 11, 8, 2, 33, 399, 7, 6, 5, 99, 3, 1000};
        for (int what = 0; what < other.length; what++) {
            x.setting(what, other[what]);
        }
        for (int what = 0; what < other.length; what++) {
            Due.is("told(" + what + ")", x.told(what), other[what]);
        }
        x.tick(200);
        for (int what = 0; what < other.length; what++) {
            Due.is("told(" + what + ") at the end", x.told(what), other[what]);
        }
        x.again();
        for (int what = 0; what < other.length; what++) {
            Due.is("told(" + what + ") behind again()", x.told(what), other[what]);
        }
        for (int what : Make.outside(0, 18)) {
            Calls.refused("told(" + what + ")", MoreHands.OUTSIDE, y -> y.told(what));
        }
        Calls.changeNothing("told(0)", y -> y.told(0));
        Calls.changeNothing("told(18)", y -> y.told(18));
        Due.end();
    }
}
