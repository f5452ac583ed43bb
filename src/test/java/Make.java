/** Objects made for a test, and the numbers of the SETTINGS by their names. */
final class Make {
    static final int WARM = 0, DRAIN = 1, RATE = 2, PATIENCE = 3, TRIES = 4, LATE = 5, MEAN = 6;
    static final int LEAST = 7, MOST = 8, REST = 9, KIND = 10, TARGET = 11, HIGH = 12, LOW = 13;
    static final int UP = 14, DOWN = 15, PRICE = 16, SPOT_PRICE = 17, PENALTY = 18, SETTINGS = 19;

    /** Of each SETTING: its lowest and its highest value, and that at first. */
    static final int[][] BOUNDS = {
        {0, 5, 1}, {0, 5, 1}, {1, 20, 5}, {1, 10, 3}, {1, 4, 1}, {0, 5, 0}, {1, 5, 1}, {0, 12, 1},
        {0, 12, 12}, {0, 10, 0}, {0, 2, 1}, {1, 60, 5}, {0, 400, 10}, {0, 400, 2}, {1, 6, 1},
        {1, 6, 1}, {0, 100, 10}, {0, 100, 4}, {0, 1000, 50}};

    static final int MIN_INT = Integer.MIN_VALUE, MAX_INT = Integer.MAX_VALUE;

    private Make() { }

    /** A new object with SETTINGS told by pairs: its number, its value. */
    static MoreHands with(int... settings) {
        MoreHands x = new MoreHands();
        change(x, settings);
        return x;
    }

    /** A change that the test needs may not be refused. */
    static void change(MoreHands x, int... settings) {
        for (int i = 0; i < settings.length; i += 2) {
            if (x.setting(settings[i], settings[i + 1]) < 0) {
                Due.is("setting(" + settings[i] + ", " + settings[i + 1] + ") is refused: 1", 1, 0);
            }
        }
    }

    /** LOADS from NOW on. */
    static void loads(MoreHands x, int... loads) {
        int now = x.now(0);
        for (int i = 0; i < loads.length; i++) {
            x.load(now + i, loads[i]);
        }
    }

    /** Values out of the bounds: just outside, those that a shorter number would wrap into them, and the ends. */
    static int[] outside(int lowest, int highest) {
        return new int[] {lowest - 1, highest + 1, lowest + 256, lowest + 65536, lowest - 65536, MIN_INT, MAX_INT};
    }
}
