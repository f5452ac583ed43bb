/** States in which a call may find an object. Each is made in some 80 of the 512 calls that an object is good for. */
enum Scene {
    NEW, IN_THE_MIDDLE, AT_THE_END;

    /** NOW of IN_THE_MIDDLE. */
    static final int MIDDLE = 28;

    MoreHands make() {
        switch (this) {
            case NEW:
                return new MoreHands();
            case IN_THE_MIDDLE:
                return middle();
            default:
                MoreHands x = middle();
                x.tick(200 - MIDDLE);
                return x;
        }
    }

    /** SERVERS of each state, some who wait and some who will try again, and much that is still to come. */
    private static MoreHands middle() {
        MoreHands x = Make.with(Make.WARM, 4, Make.DRAIN, 5, Make.RATE, 2, Make.PATIENCE, 3, Make.TRIES, 2,
            Make.LATE, 1, Make.MEAN, 3, Make.KIND, 0, Make.LEAST, 5, Make.HIGH, 12, Make.LOW, 6, Make.UP, 3,
            Make.DOWN, 2, Make.PRICE, 9, Make.SPOT_PRICE, 3, Make.PENALTY, 7);
        for (int tick = 0; tick < 45; tick++) {
            x.load(tick, tick * 7 % 31);
        }
        x.load(199, 60);
        for (int tick : new int[] {3, 27, 28, 31, 199}) {
            x.lose(tick, true);
        }
        x.plan(0, 7);
        x.plan(7, 4);
        x.plan(23, 12);
        x.tick(MIDDLE - 2);
        Make.change(x, Make.LEAST, 0, Make.MOST, 3);
        x.tick(1);
        Make.change(x, Make.MOST, 12, Make.LEAST, 6);
        x.tick(1);
        Make.change(x, Make.LEAST, 2, Make.MOST, 11, Make.KIND, 2, Make.REST, 2);
        return x;
    }
}
