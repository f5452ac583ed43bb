/** What some later calls show of an object, put into one text; the object is not to be used behind that. */
enum View {
    SETTINGS, STATE, LOADS, PLANS, FIRST_PAST, SECOND_PAST, THIRD_PAST, LATER;

    String of(MoreHands x) {
        StringBuilder all = new StringBuilder();
        switch (this) {
            case SETTINGS:
                settings(x, all);
                break;
            case STATE:
                state(x, all);
                break;
            case LOADS:
                loads(x, all);
                break;
            case PLANS:
                plans(x, all);
                break;
            case FIRST_PAST:
                past(x, 0, all);
                break;
            case SECOND_PAST:
                past(x, 2, all);
                break;
            case THIRD_PAST:
                past(x, 4, all);
                break;
            default:
                later(x, all);
        }
        return all.toString();
    }

    private static void settings(MoreHands x, StringBuilder all) {
        for (int what = 0; what < Make.SETTINGS; what++) {
            add(all, x.told(what));
        }
        for (int n = 1; n <= 24; n++) {
            add(all, x.hindsight(n));
        }
        for (int what = 0; what <= 1; what++) {
            add(all, x.worst(4, 40, what));
        }
        for (int what = 0; what <= 2; what++) {
            add(all, x.swing(30, what));
        }
    }

    private static void state(MoreHands x, StringBuilder all) {
        for (int what = 0; what <= 12; what++) {
            add(all, x.now(what));
        }
        for (int server = 0; server < 12; server++) {
            add(all, x.server(server, 0));
            add(all, x.server(server, 1));
        }
        add(all, x.digest());
    }

    private static void loads(MoreHands x, StringBuilder all) {
        for (int tick = 0; tick < 200; tick++) {
            add(all, x.load(tick, 0));
            add(all, x.lose(tick, false));
        }
    }

    private static void plans(MoreHands x, StringBuilder all) {
        for (int hour = 0; hour < 24; hour++) {
            add(all, x.plan(hour, 0));
        }
        add(all, x.again());
        for (int tick = 0; tick < 200; tick++) {
            add(all, x.load(tick, 0));
            add(all, x.lose(tick, false));
        }
    }

    private static void past(MoreHands x, int what, StringBuilder all) {
        for (int tick = 0; tick < 200; tick++) {
            add(all, x.was(tick, what));
            add(all, x.was(tick, what + 1));
        }
    }

    private static void later(MoreHands x, StringBuilder all) {
        for (int tick = x.now(0); tick < 200; tick++) {
            add(all, x.tick(1));
            add(all, x.digest());
        }
        add(all, x.again());
        add(all, x.tick(40));
        add(all, x.digest());
    }

    private static void add(StringBuilder all, int v) {
        all.append(v).append(' ');
    }
}
