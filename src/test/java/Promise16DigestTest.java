import java.math.BigInteger;

public final class Promise16DigestTest {
    public static void main(String[] args) {
        exactNumbers();
        inEveryState();
        eachPartIsInIt();
        nothingElseIsInIt();
        Calls.changeNothing("digest()", x -> x.digest());
        Due.end();
    }

    /** Without any wrapping on the way; its lowest 32 bits are due. */
    private static void due(String what, MoreHands x) {
        BigInteger d = BigInteger.valueOf(7);
        BigInteger by = BigInteger.valueOf(31);
        for (int w = 0; w <= 12; w++) {
            d = d.multiply(by).add(BigInteger.valueOf(x.now(w)));
        }
        for (int server = 0; server < 12; server++) {
            d = d.multiply(by).add(BigInteger.valueOf(x.server(server, 0)));
        }
        Due.is(what + ": digest()", x.digest(), d.intValue());
    }

    private static void exactNumbers() {
        // 7 * 31^25 - 31^17 - 31^13 of a new object: now(7) and now(11) are NONE, all else is 0.
        BigInteger by = BigInteger.valueOf(31);
        BigInteger d = BigInteger.valueOf(7).multiply(by.pow(25)).subtract(by.pow(17)).subtract(by.pow(13));
        Due.is("digest() of a new one", new MoreHands().digest(), d.intValue());
        MoreHands x = new MoreHands();
        x.tick(2);
        x.now(0);
        Due.is("digest() behind two TICKS", x.digest(), -136111294);
    }

    private static void inEveryState() {
        for (Scene scene : Scene.values()) {
            due(scene.toString(), scene.make());
        }
        MoreHands x = Scene.IN_THE_MIDDLE.make();
        int below = 0;
        for (int t = 0; t < 12; t++) {
            x.tick(1);
            due("behind TICK " + (x.now(0) - 1), x);
            below += x.digest() < 0 ? 1 : 0;
        }
        Due.is("it wraps, so some are below 0 and some not", below > 0 && below < 12 ? 1 : 0, 1);
        x.fail(0, false);
        due("behind fail()", x);
        x.again();
        due("behind again()", x);
        Due.is("behind again() as at first", x.digest(), new MoreHands().digest());
    }

    private static void eachPartIsInIt() {
        for (int server = 0; server < 12; server++) {
            MoreHands x = Make.with(Make.KIND, 0, Make.LEAST, 12);
            x.tick(2);
            int before = x.digest();
            x.fail(server, false);
            due("SERVER " + server + " failed", x);
            Due.is("SERVER " + server + " is in it", x.digest() != before ? 1 : 0, 1);
        }
    }

    private static void nothingElseIsInIt() {
        MoreHands x = Scene.IN_THE_MIDDLE.make();
        int before = x.digest();
        x.setting(Make.WARM, 5);
        x.load(100, 33);
        x.lose(101, true);
        x.plan(5, 5);
        Due.is("SETTINGS, LOADS, LOST METERS and PLAN are not in it", x.digest(), before);
    }
}
