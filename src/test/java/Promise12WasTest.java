public final class Promise12WasTest {
    public static void main(String[] args) {
        eachOfThem();
        itStays();
        theFirstAndTheLastTick();
        itWasNotYet();
        outside();
        Due.end();
    }

    private static MoreHands sixTicks() {
        MoreHands x = Make.with(Make.RATE, 2, Make.PATIENCE, 2, Make.TRIES, 2, Make.MOST, 2);
        Make.loads(x, 12, 3);
        x.tick(6);
        return x;
    }

    private static void due(MoreHands x) {
        int[][] due = {{12, 0, 0, 2, 2, 20}, {15, 4, 0, 2, 2, 20}, {11, 4, 0, 2, 2, 20}, {7, 4, 3, 2, 2, 170},
            {0, 0, 0, 1, 1, 20}, {0, 0, 0, 1, 1, 20}};
        for (int tick = 0; tick < due.length; tick++) {
            for (int what = 0; what < due[tick].length; what++) {
                Due.is("was(" + tick + ", " + what + ")", x.was(tick, what), due[tick][what]);
            }
        }
    }

    private static void eachOfThem() {
        due(sixTicks());
        MoreHands x = Make.with(Make.REST, 10, Make.WARM, 5, Make.TARGET, 1);
        Make.loads(x, 3, 60);
        x.tick(2);
        Due.is("UP at its end", x.was(1, 3), 3);
        Due.is("WANTED, of which nothing came", x.was(1, 4), 12);
        MoreHands y = Make.with(Make.LEAST, 0, Make.MOST, 0);
        Make.loads(y, 30);
        y.lose(0, true);
        y.tick(1);
        Due.is("how many waited, told or not", y.was(0, 0), 30);
    }

    private static void itStays() {
        MoreHands x = sixTicks();
        Make.change(x, Make.PRICE, 90, Make.PENALTY, 1, Make.RATE, 20);
        x.fail(0, false);
        x.plan(0, 12);
        due(x);
        x.tick(100);
        due(x);
    }

    private static void theFirstAndTheLastTick() {
        MoreHands x = Make.with(Make.KIND, 0, Make.LEAST, 2, Make.WARM, 0);
        x.load(0, 11);
        x.load(199, 12);
        x.tick(200);
        int[][] due = {{0, 11, 10, 0, 2, 2, 20}, {1, 1, 1, 0, 2, 2, 20}, {198, 0, 0, 0, 2, 2, 20}, {199, 12, 10, 0, 2, 2, 20}};
        for (int[] row : due) {
            for (int what = 0; what <= 5; what++) {
                Due.is("was(" + row[0] + ", " + what + ")", x.was(row[0], what), row[what + 1]);
            }
        }
    }

    private static void itWasNotYet() {
        for (int what = 0; what <= 5; what++) {
            int w = what;
            Calls.refused(Scene.NEW, "was(0, " + w + ")", MoreHands.NOT, x -> x.was(0, w));
            Calls.refused(Scene.NEW, "was(199, " + w + ")", MoreHands.NOT, x -> x.was(199, w));
            Calls.refused(Scene.IN_THE_MIDDLE, "was(NOW, " + w + ")", MoreHands.NOT, x -> x.was(Scene.MIDDLE, w));
            Calls.refused(Scene.IN_THE_MIDDLE, "was(199, " + w + ")", MoreHands.NOT, x -> x.was(199, w));
        }
        MoreHands x = new MoreHands();
        x.tick(1);
        Due.is("TICK 0 was", x.was(0, 3), 1);
        Due.is("TICK 1 was not yet", x.was(1, 3), MoreHands.NOT);
        x.tick(198);
        Due.is("TICK 198 was", x.was(198, 3), 1);
        Due.is("TICK 199 was not yet", x.was(199, 3), MoreHands.NOT);
        x.tick(1);
        Due.is("TICK 199 was", x.was(199, 3), 1);
        x.again();
        Due.is("behind again()", x.was(0, 3), MoreHands.NOT);
        x.tick(1);
        Due.is("TICK 0 was again", x.was(0, 3), 1);
        Due.is("TICK 1 was not", x.was(1, 3), MoreHands.NOT);
    }

    private static void outside() {
        for (int tick : Make.outside(0, 199)) {
            for (int what : new int[] {0, 5, 6, Make.MIN_INT, Make.MAX_INT}) {
                Calls.refused("was(" + tick + ", " + what + ")", MoreHands.OUTSIDE, x -> x.was(tick, what));
            }
        }
        for (int what : Make.outside(0, 5)) {
            Calls.refused("was(0, " + what + ")", MoreHands.OUTSIDE, x -> x.was(0, what));
            Calls.refused("OUTSIDE ahead of NOT: was(199, " + what + ")", MoreHands.OUTSIDE, x -> x.was(199, what));
        }
        for (int what = 0; what <= 5; what++) {
            int w = what;
            Calls.changeNothing("was(0, " + w + ")", x -> x.was(0, w));
        }
    }
}
