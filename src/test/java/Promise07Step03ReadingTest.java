/** 2. THE METER notes. 3. THE READING. Nobody serves and nobody goes, so the notes grow with the LOADS. */
public final class Promise07Step03ReadingTest {
    public static void main(String[] args) {
        notesWhatWaitsAheadOfServing();
        noteOfNobodyCounts();
        cutTowardsZero();
        meanOfThoseThere();
        everyMean();
        everyLate();
        lostOnesAreLeftOut();
        withoutAnyItStays();
        lateAndMeanChange();
        nothingNotedBeforeAgain();
        Due.end();
    }

    private static MoreHands idle(int late, int mean) {
        return Make.with(Make.LEAST, 0, Make.MOST, 0, Make.PATIENCE, 10, Make.TRIES, 4, Make.LATE, late,
            Make.MEAN, mean);
    }

    private static void readings(String what, MoreHands x, int... due) {
        for (int reading : due) {
            x.tick(1);
            Due.is(what + ": READING in TICK " + (x.now(0) - 1), x.now(6), reading);
        }
    }

    private static void notesWhatWaitsAheadOfServing() {
        MoreHands x = Make.with(Make.WARM, 0, Make.PATIENCE, 1, Make.TRIES, 2);
        Make.loads(x, 12, 0, 60);
        readings("those done and those that go are noted", x, 12, 0, 60);
        MoreHands y = Make.with(Make.LEAST, 0, Make.MOST, 0, Make.PATIENCE, 1, Make.TRIES, 2);
        Make.loads(y, 12, 3, 0, 0);
        readings("those that try again are noted", y, 12, 15, 3, 0);
    }

    private static void noteOfNobodyCounts() {
        MoreHands x = Make.with(Make.LEAST, 0, Make.MOST, 0, Make.PATIENCE, 1, Make.MEAN, 3);
        Make.loads(x, 9, 0, 0, 0, 6, 0);
        readings("a note of 0 is one", x, 9, 4, 3, 0, 2, 2);
    }

    private static void cutTowardsZero() {
        MoreHands x = Make.with(Make.LEAST, 0, Make.MOST, 0, Make.PATIENCE, 1, Make.MEAN, 5);
        Make.loads(x, 1, 2, 0, 0, 1, 1, 60);
        readings("cut towards 0", x, 1, 1, 1, 0, 0, 0, 12);
        MoreHands y = Make.with(Make.LEAST, 0, Make.MOST, 0, Make.PATIENCE, 1, Make.MEAN, 2);
        Make.loads(y, 60, 59, 0, 1);
        readings("cut towards 0", y, 60, 59, 29, 0);
    }

    private static void meanOfThoseThere() {
        MoreHands x = idle(0, 5);
        Make.loads(x, 10, 10, 10, 10, 10, 10, 10);
        readings("ahead of TICK 0 there is none", x, 10, 15, 20, 25, 30, 40, 50);
    }

    private static void everyMean() {
        for (int mean = 1; mean <= 5; mean++) {
            MoreHands x = Make.with(Make.LEAST, 0, Make.MOST, 0, Make.PATIENCE, 1, Make.MEAN, mean);
            Make.loads(x, 60, 0, 0, 0, 0, 0, 0);
            for (int tick = 0; tick < 7; tick++) {
                x.tick(1);
                Due.is("MEAN " + mean + " in TICK " + tick, x.now(6), tick < mean ? 60 / (tick + 1) : 0);
            }
        }
    }

    private static void everyLate() {
        for (int late = 0; late <= 5; late++) {
            MoreHands x = idle(late, 1);
            Make.loads(x, 11, 1, 1, 1, 1, 1, 1, 1);
            for (int tick = 0; tick < 8; tick++) {
                x.tick(1);
                Due.is("LATE " + late + " in TICK " + tick, x.now(6), tick < late ? 0 : 11 + tick - late);
            }
        }
        MoreHands x = idle(2, 2);
        Make.loads(x, 7, 4, 60, 0, 0);
        readings("LATE 2, MEAN 2", x, 0, 0, 7, 9, 41, 71);
        MoreHands y = idle(5, 5);
        Make.loads(y, 10, 10, 10, 10, 10, 10, 10, 10, 10);
        readings("LATE 5, MEAN 5", y, 0, 0, 0, 0, 0, 10, 15, 20, 25, 30);
    }

    private static void lostOnesAreLeftOut() {
        MoreHands x = idle(0, 3);
        Make.loads(x, 10, 10, 0, 11, 1, 1);
        x.lose(2, true);
        readings("MEAN 3 without TICK 2", x, 10, 15, 15, 25, 31, 32);
        MoreHands y = idle(1, 2);
        Make.loads(y, 10, 10, 10, 10, 10);
        y.lose(1, true);
        readings("LATE 1, MEAN 2, without TICK 1", y, 0, 10, 10, 30, 35);
        MoreHands z = idle(0, 2);
        Make.loads(z, 10, 10, 10);
        z.lose(0, true);
        readings("without TICK 0", z, 0, 20, 25);
    }

    private static void withoutAnyItStays() {
        MoreHands x = idle(0, 2);
        Make.loads(x, 7, 10, 20, 20, 20);
        x.lose(2, true);
        x.lose(3, true);
        readings("two lost ones", x, 7, 12, 17, 17, 77);
        MoreHands y = idle(0, 1);
        Make.loads(y, 7, 10, 20, 20);
        y.lose(0, true);
        y.lose(2, true);
        readings("at first it is 0", y, 0, 17, 17, 57);
        MoreHands z = idle(2, 2);
        Make.loads(z, 7, 4, 60, 0, 0, 0, 0, 9);
        for (int tick = 3; tick <= 6; tick++) {
            z.lose(tick, true);
        }
        readings("late ones lost", z, 0, 0, 7, 9, 41, 71, 71, 71, 71, 80);
        MoreHands all = idle(0, 5);
        for (int tick = 0; tick < 200; tick++) {
            all.load(tick, 60);
            all.lose(tick, true);
        }
        all.tick(200);
        Due.is("all are lost: READING", all.now(6), 0);
    }

    private static void lateAndMeanChange() {
        MoreHands x = idle(0, 1);
        Make.loads(x, 1, 1, 1, 1, 1, 1, 1, 1, 1);
        x.lose(1, true);
        x.tick(5);
        Due.is("READING", x.now(6), 5);
        Make.change(x, Make.LATE, 5);
        x.tick(1);
        Due.is("what was noted then, five TICKS late", x.now(6), 1);
        x.tick(1);
        Due.is("the lost note is found late", x.now(6), 1);
        Make.change(x, Make.LATE, 0, Make.MEAN, 5);
        x.tick(1);
        Due.is("the notes of TICKS 3 to 7", x.now(6), 6);
    }

    private static void nothingNotedBeforeAgain() {
        MoreHands x = idle(0, 5);
        Make.loads(x, 60, 60, 60, 60, 60, 60);
        x.tick(6);
        x.again();
        Due.is("READING behind again()", x.now(6), 0);
        x.load(0, 4);
        x.load(1, 2);
        readings("of the notes behind again()", x, 4, 5);
        MoreHands y = idle(2, 2);
        Make.loads(y, 60, 60, 60, 60, 60, 60);
        y.tick(6);
        y.again();
        readings("late behind again()", y, 0, 0, 60, 90);
    }
}
