/** 10. BILL. */
public final class Promise07Step10BillTest {
    public static void main(String[] args) {
        spotOnesAreEightToEleven();
        pricesAtTheirBounds();
        penaltyAtItsBounds();
        warmingServingAndDrainingOnes();
        thoseThatWentOut();
        pricesOfNow();
        theGreatestBill();
        Due.end();
    }

    private static MoreHands byLeast(int n, int price, int spotPrice) {
        return Make.with(Make.KIND, 0, Make.LEAST, n, Make.PRICE, price, Make.SPOT_PRICE, spotPrice);
    }

    private static void spotOnesAreEightToEleven() {
        for (int n = 0; n <= 12; n++) {
            MoreHands x = byLeast(n, 7, 3);
            x.tick(2);
            int due = Math.min(n, 8) * 7 + Math.max(n - 8, 0) * 3;
            Due.is(n + " SERVERS, WARMING", x.was(0, 5), due);
            Due.is(n + " SERVERS, SERVING", x.was(1, 5), due);
            Due.is(n + " SERVERS, both TICKS", x.now(5), 2 * due);
        }
        MoreHands x = byLeast(12, 7, 3);
        x.tick(1);
        Make.change(x, Make.LEAST, 0);
        for (int server = 0; server < 11; server++) {
            x.fail(server, false);
        }
        x.tick(1);
        Due.is("SERVER 11 alone", x.was(1, 5), 3);
    }

    private static void pricesAtTheirBounds() {
        for (int price : new int[] {0, 1, 99, 100}) {
            for (int spotPrice : new int[] {0, 1, 99, 100}) {
                MoreHands x = byLeast(12, price, spotPrice);
                x.tick(3);
                Due.is("PRICE " + price + ", SPOT PRICE " + spotPrice, x.now(5), 3 * (8 * price + 4 * spotPrice));
            }
        }
    }

    private static void penaltyAtItsBounds() {
        for (int penalty : new int[] {0, 1, 999, 1000}) {
            MoreHands x = Make.with(Make.LEAST, 0, Make.MOST, 0, Make.PATIENCE, 1, Make.PENALTY, penalty);
            Make.loads(x, 60, 0, 1);
            x.tick(3);
            Due.is("PENALTY " + penalty + " for 60", x.was(0, 5), 60 * penalty);
            Due.is("PENALTY " + penalty + " for none", x.was(1, 5), 0);
            Due.is("PENALTY " + penalty + " for one", x.was(2, 5), penalty);
            Due.is("PENALTY " + penalty + " for all", x.now(5), 61 * penalty);
        }
    }

    private static void warmingServingAndDrainingOnes() {
        MoreHands x = Make.with(Make.KIND, 0, Make.LEAST, 12, Make.PRICE, 7, Make.SPOT_PRICE, 3, Make.PENALTY, 1000,
            Make.RATE, 1, Make.PATIENCE, 1);
        Make.loads(x, 2, 60);
        x.tick(1);
        Due.is("WARMING ones are paid for, and LOST ones", x.now(5), 68 + 2000);
        x.tick(1);
        Due.is("SERVING ones are paid for, and LOST ones", x.was(1, 5), 68 + 48000);
        Due.is("both TICKS", x.now(5), 2 * 68 + 50000);
        Make.change(x, Make.LEAST, 0, Make.MOST, 5, Make.DRAIN, 1);
        x.tick(1);
        Due.is("DRAINING ones are paid for", x.was(2, 5), 68);
        x.tick(1);
        Due.is("in the TICK in which they go OUT too", x.was(3, 5), 68);
        x.tick(1);
        Due.is("OUT ones are not", x.was(4, 5), 35);
    }

    private static void thoseThatWentOut() {
        MoreHands x = byLeast(3, 10, 4);
        Make.change(x, Make.WARM, 5);
        x.tick(1);
        Make.change(x, Make.LEAST, 0, Make.MOST, 0);
        x.tick(1);
        Due.is("WARMING ones that went OUT in CHANGES are not paid for", x.was(1, 5), 0);
        MoreHands y = byLeast(3, 10, 4);
        Make.change(y, Make.WARM, 0, Make.DRAIN, 0);
        y.tick(1);
        Make.change(y, Make.LEAST, 0, Make.MOST, 0);
        y.tick(1);
        Due.is("those that went OUT behind 7 are", y.was(1, 5), 30);
        MoreHands z = byLeast(3, 10, 4);
        z.tick(1);
        Make.change(z, Make.LEAST, 0);
        z.fail(1, false);
        z.tick(1);
        Due.is("one that failed is not", z.was(1, 5), 20);
        Due.is("but in the TICK ahead it was", z.was(0, 5), 30);
    }

    private static void pricesOfNow() {
        MoreHands x = byLeast(2, 10, 4);
        x.tick(1);
        Make.change(x, Make.PRICE, 30);
        x.tick(1);
        Due.is("PRICE of now", x.was(1, 5), 60);
        Due.is("what was stays", x.was(0, 5), 20);
        Due.is("BILL", x.now(5), 80);
    }

    private static void theGreatestBill() {
        MoreHands x = Make.with(Make.KIND, 0, Make.LEAST, 12, Make.PRICE, 100, Make.SPOT_PRICE, 100, Make.PENALTY, 1000,
            Make.PATIENCE, 1, Make.RATE, 1, Make.WARM, 5);
        for (int tick = 0; tick < 200; tick++) {
            x.load(tick, 60);
        }
        x.tick(200);
        int lost = 5 * 60 + 195 * 48;
        Due.is("LOST", x.now(4), lost);
        Due.is("BILL", x.now(5), 200 * 1200 + lost * 1000);
    }
}
