public final class Promise13HindsightTest {
    public static void main(String[] args) {
        nothingToDo();
        leastAndMost();
        furtherPrices();
        keptOrTakenAnew();
        patience();
        cannotBe();
        onlyTheseTicks();
        manyLeft();
        whatIsNotAsked();
        outside();
        Due.end();
    }

    /** LEAST 0, RATE 5 and PRICE 10, and LOADS from TICK 0 on. */
    private static MoreHands with(int patience, int... loads) {
        MoreHands x = Make.with(Make.LEAST, 0, Make.PATIENCE, patience);
        Make.loads(x, loads);
        return x;
    }

    private static void nothingToDo() {
        for (int n = 1; n <= 24; n++) {
            Due.is("LEAST 1 in " + n + " TICKS", new MoreHands().hindsight(n), 10 * (n + 1));
            Due.is("LEAST 0 in " + n + " TICKS", with(1).hindsight(n), 0);
        }
    }

    private static void leastAndMost() {
        for (int least = 0; least <= 12; least++) {
            MoreHands x = Make.with(Make.LEAST, least);
            Due.is("LEAST " + least, x.hindsight(24), 10 * least * 25);
            x.setting(Make.MOST, 12);
            x.load(0, 60);
            x.setting(Make.PATIENCE, 1);
            Due.is("LEAST " + least + ", 60 at once", x.hindsight(3), 10 * (12 + 12 + least + least));
        }
        for (int most = 0; most <= 12; most++) {
            MoreHands x = with(1, most * 5);
            Make.change(x, Make.MOST, most);
            Due.is("as many as MOST " + most, x.hindsight(1), 20 * most);
            x.load(0, Math.min(most * 5 + 1, 60));
            Due.is("one more than MOST " + most + " can do", x.hindsight(1), most < 12 ? MoreHands.NONE : 240);
        }
        MoreHands x = with(1, 60);
        Make.change(x, Make.LEAST, 12, Make.RATE, 20);
        Due.is("LEAST as MOST", x.hindsight(2), 10 * (12 + 12 + 12));
    }

    private static void furtherPrices() {
        Due.is("2 from 0 on", with(1, 10).hindsight(1), 10 * (2 + 2));
        Due.is("2, 2", with(1, 10, 10).hindsight(2), 10 * (2 + 2 + 2));
        Due.is("1, 2", with(1, 5, 10).hindsight(2), 10 * (1 + 1 + 2 + 1));
        Due.is("2, 1: fewer costs nothing", with(1, 10, 5).hindsight(2), 10 * (2 + 2 + 1));
        Due.is("1, 12", with(1, 5, 60).hindsight(2), 10 * (1 + 1 + 12 + 11));
        Due.is("1, 2, 1", with(1, 5, 10, 5).hindsight(3), 10 * (1 + 1 + 2 + 1 + 1));
        for (int price : new int[] {0, 1, 7, 100}) {
            MoreHands x = with(1, 5, 10);
            Make.change(x, Make.PRICE, price);
            Due.is("PRICE " + price, x.hindsight(2), 5 * price);
        }
    }

    private static void keptOrTakenAnew() {
        Due.is("2, 1, 2: kept one TICK", with(1, 10, 5, 10).hindsight(3), 10 * (2 + 2 + 2 + 2));
        Due.is("one kept a TICK or taken anew costs as much", with(1, 5, 0, 5).hindsight(3), 30 + 10);
        Due.is("taken anew behind two TICKS", with(1, 5, 0, 0, 5).hindsight(4), 20 + 20);
        Due.is("done later instead", with(2, 5, 0, 0, 5, 0).hindsight(5), 10 * (1 + 1 + 1 + 1));
        Due.is("12 behind 12", with(1, 60, 0, 0, 0, 60).hindsight(5), 10 * (12 + 12 + 12 + 12));
    }

    private static void patience() {
        for (int patience = 1; patience <= 10; patience++) {
            for (int n = 1; n <= 12; n++) {
                int due = n < patience ? 0 : 20;
                Due.is("5 with PATIENCE " + patience + " in " + n, with(patience, 5).hindsight(n), due);
            }
            int inEach = 50 / patience + (50 % patience > 0 ? 1 : 0);
            MoreHands x = with(patience, 50);
            Make.change(x, Make.RATE, 1, Make.MOST, 12);
            boolean can = inEach <= 12;
            Due.is("50 with PATIENCE " + patience + ", by one each", x.hindsight(patience),
                can ? 10 * (50 + inEach) : MoreHands.NONE);
        }
        Due.is("done in the PATIENCE-th TICK", with(3, 10).hindsight(3), 10 * (1 + 1 + 1));
        Due.is("one alone can't: 1, 1, 1 do 15 of 16", with(3, 16).hindsight(3), 10 * (2 + 1 + 1 + 2));
        Due.is("not done ahead of its coming", with(1, 0, 10).hindsight(2), 10 * (2 + 2));
        MoreHands x = with(3, 10, 60, 0, 0);
        Make.change(x, Make.RATE, 20);
        Due.is("the first ones are done first", x.hindsight(4), 10 * (4 + 1));
        Due.is("each by its own end", with(2, 5, 10, 15, 0).hindsight(4), 10 * (6 + 2));
    }

    private static void cannotBe() {
        MoreHands x = with(1, 10);
        Make.change(x, Make.MOST, 1);
        Due.is("MOST is too few", x.hindsight(1), MoreHands.NONE);
        for (int n = 2; n <= 24; n++) {
            Due.is("nor in " + n, x.hindsight(n), MoreHands.NONE);
        }
        Make.change(x, Make.PRICE, 0);
        Due.is("NONE with PRICE 0 too", x.hindsight(1), MoreHands.NONE);
        Make.change(x, Make.PATIENCE, 2);
        Due.is("with more PATIENCE it can", x.hindsight(2), 0);
        MoreHands y = with(1);
        y.load(23, 11);
        Make.change(y, Make.MOST, 2);
        Due.is("it can in 23 TICKS", y.hindsight(23), 0);
        Due.is("it cannot in 24", y.hindsight(24), MoreHands.NONE);
        MoreHands z = with(10, 1);
        Make.change(z, Make.MOST, 0);
        Due.is("MOST 0: not yet", z.hindsight(9), 0);
        Due.is("MOST 0", z.hindsight(10), MoreHands.NONE);
    }

    private static void onlyTheseTicks() {
        for (int n = 1; n <= 23; n++) {
            MoreHands x = with(1);
            x.load(n, 5);
            Due.is("LOAD of TICK " + n + " is not in " + n, x.hindsight(n), 0);
            Due.is("LOAD of TICK " + n + " is in " + (n + 1), x.hindsight(n + 1), 20);
        }
        MoreHands x = with(1);
        x.load(24, 60);
        x.load(199, 60);
        Due.is("LOADS behind 24 TICKS", x.hindsight(24), 0);
    }

    private static void manyLeft() {
        MoreHands x = with(10);
        Make.change(x, Make.RATE, 20);
        for (int t = 0; t < 24; t++) {
            x.load(t, 60);
        }
        Due.is("540 may be left behind 9 TICKS", x.hindsight(9), 0);
        Due.is("60 must be done in 10 TICKS", x.hindsight(10), 40);
        Make.change(x, Make.MOST, 2);
        Due.is("900 must be done in 24 TICKS", x.hindsight(24), 10 * (45 + 2));
        Make.change(x, Make.MOST, 1);
        Due.is("480 are too few", x.hindsight(24), MoreHands.NONE);
        Due.is("540 must be done in 18 TICKS, 360 are too few", x.hindsight(18), MoreHands.NONE);
        Due.is("240 must be done in 13 TICKS", x.hindsight(13), 10 * (12 + 1));
        MoreHands y = with(1);
        for (int t = 0; t < 24; t++) {
            y.load(t, 60);
        }
        Make.change(y, Make.PRICE, 100);
        Due.is("the greatest of all", y.hindsight(24), 100 * 12 * 25);
        Make.change(y, Make.RATE, 4);
        Due.is("48 in a TICK are too few", y.hindsight(24), MoreHands.NONE);
    }

    private static void whatIsNotAsked() {
        MoreHands x = with(1, 60, 20, 0, 5);
        int due = 10 * (12 + 12 + 4 + 1 + 1);
        Due.is("by LOADS alone", x.hindsight(4), due);
        Make.change(x, Make.SPOT_PRICE, 0, Make.PENALTY, 1000, Make.WARM, 5, Make.DRAIN, 5, Make.TRIES, 4, Make.KIND, 0,
            Make.REST, 10, Make.LATE, 5);
        Due.is("no other SETTING is asked", x.hindsight(4), due);
        x.plan(0, 12);
        x.plan(2, 12);
        x.lose(1, true);
        Due.is("nor PLAN, nor LOST METERS", x.hindsight(4), due);
        x.tick(2);
        x.fail(0, false);
        Due.is("nor what was", x.hindsight(4), due);
        x.tick(198);
        Due.is("at the end too", x.hindsight(4), due);
        x.again();
        Due.is("behind again() too", x.hindsight(4), due);
        Due.is("and once more", x.hindsight(4), due);
        x.load(0, 5);
        Due.is("LOADS of now", x.hindsight(1), 20);
    }

    private static void outside() {
        for (int n : Make.outside(1, 24)) {
            Calls.refused("hindsight(" + n + ")", MoreHands.OUTSIDE, x -> x.hindsight(n));
        }
        Calls.changeNothing("hindsight(1)", x -> x.hindsight(1));
        Calls.changeNothing("hindsight(24)", x -> x.hindsight(24));
    }
}
