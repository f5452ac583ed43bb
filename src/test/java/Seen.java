/** What can be seen of an object, put into one text, in some 110 calls that leave it as it is. */
final class Seen {
    private Seen() { }

    static String of(MoreHands x) {
        StringBuilder all = new StringBuilder();
        for (int what = 0; what <= 18; what++) {
            add(all, x.told(what));
        }
        for (int what = 0; what <= 12; what++) {
            add(all, x.now(what));
        }
        for (int server = 0; server < 12; server++) {
            add(all, x.server(server, 0));
            add(all, x.server(server, 1));
        }
        int now = x.now(0);
        for (int what = 0; what <= 5 && now > 0; what++) {
            add(all, x.was(now - 1, what));
        }
        for (int tick : new int[] {now, now + 1, 199}) {
            if (tick < 200 && now < 200) {
                int load = x.load(tick, 0);
                x.load(tick, load);
                int lost = x.lose(tick, false);
                x.lose(tick, lost == 1);
                add(all, load);
                add(all, lost);
            }
        }
        for (int hour = 0; hour < 24; hour += 23) {
            int plan = x.plan(hour, 0);
            x.plan(hour, plan);
            add(all, plan);
        }
        return all.toString();
    }

    private static void add(StringBuilder all, int v) {
        all.append(v).append(' ');
    }
}
