public final class Promise16DigestTest {
    public static void main(String[] args) {
        MoreHands x = new MoreHands();
        x.setting(4, 2);
        x.setting(2, 2);
        x.setting(3, 2);
        x.plan(3, 12);
        due(x);
        for (int t = 0; t < 9; t++) {
            x.load(t, 7 * t);
            x.tick(1);
            due(x);
        }
        int before = x.digest();
        Due.is("digest() changes nothing", x.digest(), before);
        x.setting(0, 4);
        Due.is("SETTINGS are not in it", x.digest(), before);
        x.fail(0, false);
        due(x);
        x.again();
        due(x);
        Due.is("behind again() as at first", x.digest(), new MoreHands().digest());
        Due.end();
    }

    private static void due(MoreHands x) {
        int d = 7;
        for (int what = 0; what <= 12; what++) {
            d = 31 * d + x.now(what);
        }
        for (int server = 0; server < 12; server++) {
            d = 31 * d + x.server(server, 0);
        }
        Due.is("digest() behind TICK " + (x.now(0) - 1), x.digest(), d);
    }
}
