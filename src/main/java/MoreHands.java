/** A service that adds and sheds servers as work comes, tick by tick; see README.md. */
public final class MoreHands {
    public static final int NONE = -1, UNKNOWN = -1001, OUTSIDE = -1002, NOT = -1003;

    private static final int TICKS = 200, HOURS = 24, SERVERS = 12, FIRST_SPOT = 8;
    private static final int HIGHEST_LOAD = 60, HIGHEST_PATIENCE = 10, FIGURES = 13;
    private static final int HINDSIGHT_TICKS = 24, WORST_TICKS = 6, QUIET_TICKS = 10;
    private static final int SWING_FROM = 100, SWING_END = 148;

    private final Terms terms;
    private final Service live;
    // WORST and SWING try their loads on a service of their own, so that the live one stays as it is.
    private final Service trial;
    private final Hindsight behind;

    public MoreHands() {
        terms = new Terms();
        live = new Service(terms);
        trial = new Service(terms);
        behind = new Hindsight();
    }

    public int setting(int what, int v) {
        return terms.allows(what, v) ? terms.change(what, v) : OUTSIDE;
    }

    public int told(int what) {
        return terms.value(what);
    }

    public int load(int tick, int v) {
        if (!within(tick, 0, TICKS - 1) || !within(v, 0, HIGHEST_LOAD)) {
            return OUTSIDE;
        }
        return tick < live.time ? NOT : live.changeLoad(tick, v);
    }

    public int plan(int hour, int v) {
        if (!within(hour, 0, HOURS - 1) || !within(v, 0, SERVERS)) {
            return OUTSIDE;
        }
        return terms.changePlan(hour, v);
    }

    public int lose(int tick, boolean on) {
        if (!within(tick, 0, TICKS - 1)) {
            return OUTSIDE;
        }
        return tick < live.time ? NOT : live.changeMeter(tick, on);
    }

    public int tick(int n) {
        if (!within(n, 0, TICKS)) {
            return OUTSIDE;
        }
        if (n > TICKS - live.time) {
            return NOT;
        }
        live.run(n);
        return live.time;
    }

    public int fail(int server, boolean back) {
        if (!within(server, 0, SERVERS - 1)) {
            return UNKNOWN;
        }
        return back && server < FIRST_SPOT ? NOT : live.servers.takeOut(server);
    }

    public int again() {
        int were = live.time;
        live.begin();
        return were;
    }

    public int server(int server, int what) {
        if (!within(server, 0, SERVERS - 1)) {
            return UNKNOWN;
        }
        if (!within(what, 0, 1)) {
            return OUTSIDE;
        }
        return what == 0 ? live.servers.stateOf(server) : live.servers.ticksBehind(server, live.time);
    }

    public int now(int what) {
        return live.figure(what);
    }

    public int was(int tick, int what) {
        if (!within(tick, 0, TICKS - 1) || !within(what, 0, Service.KEPT - 1)) {
            return OUTSIDE;
        }
        return tick >= live.time ? NOT : live.kept(tick, what);
    }

    public int hindsight(int n) {
        return within(n, 1, HINDSIGHT_TICKS) ? behind.leastBill(terms, live, n) : OUTSIDE;
    }

    public int worst(int n, int a, int what) {
        if (!within(n, 1, WORST_TICKS) || !within(a, 1, HIGHEST_LOAD) || !within(what, 0, 1)) {
            return OUTSIDE;
        }
        int most = NONE;
        int worstRow = 0;
        for (int place = 0; place < 1 << n; place++) {
            int row = rowAt(place, n);
            int lost = trial.lostUnder(row, n, a);
            if (lost > most) {
                most = lost;
                worstRow = row;
            }
        }
        return what == 0 ? most : worstRow;
    }

    public int swing(int a, int what) {
        if (!within(a, 0, HIGHEST_LOAD) || !within(what, 0, 2)) {
            return OUTSIDE;
        }
        trial.runSteady(a, SWING_END);
        int fewest = trial.fewestUp(SWING_FROM, SWING_END);
        int most = trial.mostUp(SWING_FROM, SWING_END);
        if (what == 0) {
            return fewest == most ? 0 : 1;
        }
        return what == 1 ? fewest : most;
    }

    public int digest() {
        int d = 7;
        for (int what = 0; what < FIGURES; what++) {
            d = 31 * d + live.figure(what);
        }
        for (int server = 0; server < SERVERS; server++) {
            d = 31 * d + live.servers.stateOf(server);
        }
        return d;
    }

    private static boolean within(int v, int lowest, int highest) {
        return v >= lowest && v <= highest;
    }

    // Rows are ordered by the first TICK that differs, so TICK 0 is the highest digit of a row's
    // place, while it is the lowest bit of the row as a number.
    private static int rowAt(int place, int n) {
        int row = 0;
        for (int k = 0; k < n; k++) {
            row = row * 2 + (place >> k & 1);
        }
        return row;
    }

    /** The SETTINGS and the PLAN, which the live service and the trial one have in common. */
    private static final class Terms {
        static final int WARM = 0, DRAIN = 1, RATE = 2, PATIENCE = 3, TRIES = 4, LATE = 5, MEAN = 6;
        static final int LEAST = 7, MOST = 8, REST = 9, KIND = 10, TARGET = 11, HIGH = 12, LOW = 13;
        static final int UP = 14, DOWN = 15, PRICE = 16, SPOT_PRICE = 17, PENALTY = 18, COUNT = 19;

        private static final int[] LOWEST =
            {0, 0, 1, 1, 1, 0, 1, 0, 0, 0, 0, 1, 0, 0, 1, 1, 0, 0, 0};
        private static final int[] HIGHEST =
            {5, 5, 20, 10, 4, 5, 5, 12, 12, 10, 2, 60, 400, 400, 6, 6, 100, 100, 1000};
        private static final int[] FIRST =
            {1, 1, 5, 3, 1, 0, 1, 1, 12, 0, 1, 5, 10, 2, 1, 1, 10, 4, 50};

        private final int[] values;
        private final int[] plans;

        Terms() {
            values = new int[COUNT];
            plans = new int[HOURS];
            for (int what = 0; what < COUNT; what++) {
                values[what] = FIRST[what];
            }
        }

        int value(int what) {
            return within(what, 0, COUNT - 1) ? values[what] : OUTSIDE;
        }

        boolean allows(int what, int v) {
            if (!within(what, 0, COUNT - 1) || !within(v, LOWEST[what], HIGHEST[what])) {
                return false;
            }
            boolean crosses = what == LEAST && v > values[MOST] || what == MOST && v < values[LEAST];
            return !crosses;
        }

        int change(int what, int v) {
            if (!within(what, 0, COUNT - 1)) {
                return OUTSIDE;
            }
            int was = values[what];
            values[what] = v;
            return was;
        }

        int changePlan(int hour, int v) {
            if (!within(hour, 0, HOURS - 1)) {
                return OUTSIDE;
            }
            int was = plans[hour];
            plans[hour] = v;
            return was;
        }

        int bounded(int wanted, int tick) {
            int hour = Math.floorMod(tick, HOURS);
            int atLeast = Math.max(plans[hour], values[LEAST]);
            return Math.min(Math.max(wanted, atLeast), values[MOST]);
        }
    }

    /** One run of TICKS from the beginning, with its own LOADS and LOST METERS. */
    private static final class Service {
        static final int WAITED = 0, DONE = 1, LOST = 2, UP_AT_END = 3, WANTED = 4, BILL = 5, KEPT = 6;

        private final Terms terms;
        private final int[] loads;
        private final boolean[] meterLost;
        private final Servers servers;
        private final Queue queue;
        private final Meter meter;
        private final int[][] past;
        private int time;
        private int wanted;
        private int latestChange;
        private int came;
        private int done;
        private int lost;
        private int bill;

        Service(Terms terms) {
            this.terms = terms;
            loads = new int[TICKS];
            meterLost = new boolean[TICKS];
            servers = new Servers();
            queue = new Queue();
            meter = new Meter();
            past = new int[KEPT][TICKS];
            begin();
        }

        void begin() {
            servers.begin();
            queue.begin();
            meter.begin();
            time = 0;
            wanted = NONE;
            latestChange = NONE;
            came = 0;
            done = 0;
            lost = 0;
            bill = 0;
        }

        int loadOf(int tick) {
            return within(tick, 0, TICKS - 1) ? loads[tick] : 0;
        }

        int changeLoad(int tick, int v) {
            if (!within(tick, 0, TICKS - 1)) {
                return OUTSIDE;
            }
            int was = loads[tick];
            loads[tick] = v;
            return was;
        }

        int changeMeter(int tick, boolean on) {
            if (!within(tick, 0, TICKS - 1)) {
                return OUTSIDE;
            }
            int was = meterLost[tick] ? 1 : 0;
            meterLost[tick] = on;
            return was;
        }

        void run(int n) {
            for (int i = 0; i < n; i++) {
                step();
            }
        }

        // The order of the ten steps decides the answers, so they stand here one by one.
        private void step() {
            if (!within(time, 0, TICKS - 1)) {
                return;
            }
            queue.come(time, loads[time]);
            int waited = queue.waiting;
            meter.note(time, meterLost[time] ? NONE : waited);
            meter.read(time - terms.value(Terms.LATE), terms.value(Terms.MEAN));
            wanted = terms.bounded(wantedByRule(), time);
            makeChanges();
            servers.endWarming(time - terms.value(Terms.WARM));
            int served = queue.serve(servers.working() * terms.value(Terms.RATE));
            int cost = servers.cost(terms.value(Terms.PRICE), terms.value(Terms.SPOT_PRICE));
            servers.endDraining(time - terms.value(Terms.DRAIN));
            int gone = queue.leave(time, terms.value(Terms.PATIENCE), terms.value(Terms.TRIES));
            cost += gone * terms.value(Terms.PENALTY);
            came += loads[time];
            done += served;
            lost += gone;
            bill += cost;
            past[WAITED][time] = waited;
            past[DONE][time] = served;
            past[LOST][time] = gone;
            past[UP_AT_END][time] = servers.up();
            past[WANTED][time] = wanted;
            past[BILL][time] = cost;
            time++;
        }

        private int wantedByRule() {
            int kind = terms.value(Terms.KIND);
            if (kind == 1) {
                int target = Math.max(terms.value(Terms.TARGET), 1);
                return (meter.reading + target - 1) / target;
            }
            int up = servers.up();
            if (kind == 2 && meter.reading > terms.value(Terms.HIGH)) {
                return up + terms.value(Terms.UP);
            }
            if (kind == 2 && meter.reading < terms.value(Terms.LOW)) {
                return up - terms.value(Terms.DOWN);
            }
            return up;
        }

        private void makeChanges() {
            int up = servers.up();
            // What 0 is bounded to is what PLAN, LEAST and MOST ask for, whatever the rule says.
            int goal = resting() ? Math.max(up, terms.bounded(0, time)) : wanted;
            int changed = goal > up ? servers.start(goal - up, time) : servers.shed(up - goal, time);
            // With none OUT, wanting more of them changes nothing, and there is nothing to rest from.
            if (changed > 0) {
                latestChange = time;
            }
        }

        private boolean resting() {
            return latestChange != NONE && time - latestChange < terms.value(Terms.REST);
        }

        int figure(int what) {
            switch (what) {
                case 0: return time;
                case 1: return queue.waiting;
                case 2: return queue.returning;
                case 3: return done;
                case 4: return lost;
                case 5: return bill;
                case 6: return meter.reading;
                case 7: return wanted;
                case 8: return servers.up();
                case 9: return servers.count(Servers.SERVING);
                case 10: return servers.count(Servers.DRAINING);
                case 11: return latestChange == NONE ? NONE : time - latestChange;
                case 12: return came;
                default: return OUTSIDE;
            }
        }

        int kept(int tick, int what) {
            boolean there = within(tick, 0, TICKS - 1) && within(what, 0, KEPT - 1);
            return there ? past[what][tick] : OUTSIDE;
        }

        int lostUnder(int row, int n, int a) {
            begin();
            for (int k = 0; k < n + QUIET_TICKS; k++) {
                changeLoad(k, k < n && (row >> k & 1) == 1 ? a : 0);
            }
            run(n + QUIET_TICKS);
            return lost;
        }

        void runSteady(int a, int ticks) {
            begin();
            for (int k = 0; k < ticks; k++) {
                changeLoad(k, a);
            }
            run(ticks);
        }

        int fewestUp(int from, int end) {
            int fewest = SERVERS;
            for (int k = from; k < end; k++) {
                fewest = Math.min(fewest, kept(k, UP_AT_END));
            }
            return fewest;
        }

        int mostUp(int from, int end) {
            int most = 0;
            for (int k = from; k < end; k++) {
                most = Math.max(most, kept(k, UP_AT_END));
            }
            return most;
        }
    }

    /** What each SERVER is, and since when it is WARMING or DRAINING. */
    private static final class Servers {
        static final int OUT = 0, WARMING = 1, SERVING = 2, DRAINING = 3;

        private final int[] states;
        private final int[] began;

        Servers() {
            states = new int[SERVERS];
            began = new int[SERVERS];
        }

        void begin() {
            for (int s = 0; s < SERVERS; s++) {
                states[s] = OUT;
            }
        }

        int stateOf(int server) {
            return within(server, 0, SERVERS - 1) ? states[server] : UNKNOWN;
        }

        int ticksBehind(int server, int time) {
            if (!within(server, 0, SERVERS - 1)) {
                return UNKNOWN;
            }
            boolean underWay = states[server] == WARMING || states[server] == DRAINING;
            return underWay ? time - 1 - began[server] : 0;
        }

        int takeOut(int server) {
            if (!within(server, 0, SERVERS - 1)) {
                return UNKNOWN;
            }
            int was = states[server];
            states[server] = OUT;
            return was;
        }

        int count(int state) {
            int found = 0;
            for (int s = 0; s < SERVERS; s++) {
                if (states[s] == state) {
                    found++;
                }
            }
            return found;
        }

        int up() {
            return count(WARMING) + count(SERVING);
        }

        int working() {
            return count(SERVING) + count(DRAINING);
        }

        int start(int wish, int tick) {
            int turned = 0;
            for (int s = 0; s < SERVERS && turned < wish; s++) {
                if (states[s] == OUT) {
                    states[s] = WARMING;
                    began[s] = tick;
                    turned++;
                }
            }
            return turned;
        }

        int shed(int wish, int tick) {
            int stopped = turnHighest(WARMING, OUT, wish, tick);
            return stopped + turnHighest(SERVING, DRAINING, wish - stopped, tick);
        }

        private int turnHighest(int from, int to, int wish, int tick) {
            int turned = 0;
            for (int s = SERVERS - 1; s >= 0 && turned < wish; s--) {
                if (states[s] == from) {
                    states[s] = to;
                    began[s] = tick;
                    turned++;
                }
            }
            return turned;
        }

        void endWarming(int latestBegin) {
            endThose(WARMING, SERVING, latestBegin);
        }

        void endDraining(int latestBegin) {
            endThose(DRAINING, OUT, latestBegin);
        }

        private void endThose(int from, int to, int latestBegin) {
            for (int s = 0; s < SERVERS; s++) {
                if (states[s] == from && began[s] <= latestBegin) {
                    states[s] = to;
                }
            }
        }

        int cost(int price, int spotPrice) {
            int sum = 0;
            for (int s = 0; s < SERVERS; s++) {
                if (states[s] != OUT) {
                    sum += s < FIRST_SPOT ? price : spotPrice;
                }
            }
            return sum;
        }
    }

    /**
     * Those who wait, and behind them those who will try again in the next TICK. REQUESTS that came
     * in one TICK stay together to their end, so a group of them is known by that TICK's number.
     */
    private static final class Queue {
        private final int[] left;
        private final int[] tries;
        private final int[] since;
        // A ring: a group that goes to try again moves from its head to its tail.
        private final int[] ring;
        private int head;
        private int groups;
        private int waiting;
        private int returning;

        Queue() {
            left = new int[TICKS];
            tries = new int[TICKS];
            since = new int[TICKS];
            ring = new int[TICKS];
        }

        void begin() {
            head = 0;
            groups = 0;
            waiting = 0;
            returning = 0;
        }

        void come(int tick, int load) {
            waiting += returning;
            returning = 0;
            if (within(tick, 0, TICKS - 1) && load > 0) {
                left[tick] = load;
                tries[tick] = 1;
                since[tick] = tick;
                append(tick);
                waiting += load;
            }
        }

        int serve(int capacity) {
            int rest = capacity;
            for (int n = groups; n > 0 && rest > 0; n--) {
                int group = first();
                int served = Math.min(left[group], rest);
                left[group] -= served;
                rest -= served;
                if (left[group] == 0) {
                    removeFirst();
                }
            }
            waiting -= capacity - rest;
            return capacity - rest;
        }

        // Groups stand in the order of their latest coming, so those out of patience are at the head.
        int leave(int tick, int patience, int triesTold) {
            int lost = 0;
            for (int n = groups; n > 0 && tick - since[first()] + 1 >= patience; n--) {
                int group = first();
                removeFirst();
                waiting -= left[group];
                if (tries[group] < triesTold) {
                    tries[group]++;
                    since[group] = tick + 1;
                    append(group);
                    returning += left[group];
                } else {
                    lost += left[group];
                }
            }
            return lost;
        }

        private int first() {
            return within(head, 0, TICKS - 1) ? Math.floorMod(ring[head], TICKS) : 0;
        }

        private void removeFirst() {
            head = (head + 1) % TICKS;
            groups--;
        }

        private void append(int group) {
            int end = Math.floorMod(head + groups, TICKS);
            ring[end] = group;
            groups++;
        }
    }

    /** The notes of THE METER, and THE READING of them. */
    private static final class Meter {
        private final int[] notes;
        private int reading;

        Meter() {
            notes = new int[TICKS];
        }

        void begin() {
            reading = 0;
        }

        void note(int tick, int waited) {
            if (within(tick, 0, TICKS - 1)) {
                notes[tick] = waited;
            }
        }

        void read(int last, int mean) {
            int sum = 0;
            int found = 0;
            for (int t = Math.max(last - mean + 1, 0); t <= last && t < TICKS; t++) {
                if (notes[t] != NONE) {
                    sum += notes[t];
                    found++;
                }
            }
            if (found > 0) {
                reading = sum / found;
            }
        }
    }

    /**
     * HINDSIGHT. For each number of SERVERS in the latest TICK and each number of REQUESTS left behind
     * it: the fewest PRICES that lead there. With PATIENCE at its highest, those of 9 TICKS may be left.
     */
    private static final class Hindsight {
        private static final int LEFT = (HIGHEST_PATIENCE - 1) * HIGHEST_LOAD + 1;
        private static final int NEVER = 1000000;

        private int[][] prices;
        private int[][] next;

        Hindsight() {
            prices = new int[SERVERS + 1][LEFT];
            next = new int[SERVERS + 1][LEFT];
        }

        int leastBill(Terms terms, Service service, int n) {
            int mayBeLeft = 0;
            forget(prices, mayBeLeft);
            prices[0][0] = 0;
            for (int t = 0; t < n; t++) {
                allowAnyNumber(mayBeLeft);
                int mayBeLeftNow = stillPatient(service, t, terms.value(Terms.PATIENCE));
                forget(next, mayBeLeftNow);
                goOn(terms, service.loadOf(t), mayBeLeft, mayBeLeftNow);
                int[][] spare = prices;
                prices = next;
                next = spare;
                mayBeLeft = mayBeLeftNow;
            }
            allowAnyNumber(mayBeLeft);
            int least = NEVER;
            for (int left = 0; left <= mayBeLeft && left < LEFT; left++) {
                least = Math.min(least, prices[0][left]);
            }
            return least < NEVER ? least * terms.value(Terms.PRICE) : NONE;
        }

        private static void forget(int[][] rows, int mayBeLeft) {
            for (int servers = 0; servers <= SERVERS; servers++) {
                for (int left = 0; left <= mayBeLeft && left < LEFT; left++) {
                    rows[servers][left] = NEVER;
                }
            }
        }

        // A REQUEST of PATIENCE - 1 TICKS ago is in its PATIENCE-th TICK, and must be done by its end.
        private static int stillPatient(Service service, int tick, int patience) {
            int sum = 0;
            for (int t = Math.max(tick - patience + 2, 0); t <= tick; t++) {
                sum += service.loadOf(t);
            }
            return Math.min(sum, LEFT - 1);
        }

        // Fewer SERVERS than in the TICK ahead cost nothing, each one more costs a PRICE.
        private void allowAnyNumber(int mayBeLeft) {
            for (int servers = SERVERS - 1; servers >= 0; servers--) {
                lower(prices[servers], prices[servers + 1], 0, mayBeLeft);
            }
            for (int servers = 1; servers <= SERVERS; servers++) {
                lower(prices[servers], prices[servers - 1], 1, mayBeLeft);
            }
        }

        private static void lower(int[] row, int[] other, int more, int mayBeLeft) {
            for (int left = 0; left <= mayBeLeft && left < LEFT; left++) {
                row[left] = Math.min(row[left], other[left] + more);
            }
        }

        private void goOn(Terms terms, int load, int mayBeLeft, int mayBeLeftNow) {
            int most = Math.min(terms.value(Terms.MOST), SERVERS);
            int last = Math.min(mayBeLeftNow, LEFT - 1);
            for (int servers = Math.max(terms.value(Terms.LEAST), 0); servers <= most; servers++) {
                int[] from = prices[servers];
                int[] to = next[servers];
                int growth = load - servers * terms.value(Terms.RATE);
                for (int left = 0; left <= mayBeLeft && left < LEFT && left + growth <= last; left++) {
                    int leftNow = Math.max(left + growth, 0);
                    to[leftNow] = Math.min(to[leftNow], from[left] + servers);
                }
            }
        }
    }
}
