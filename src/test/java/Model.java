import java.util.ArrayDeque;
import java.util.ArrayList;
import java.util.Arrays;
import java.util.HashMap;
import java.util.List;
import java.util.Map;

/**
 * The document once more, in another form: every REQUEST and SERVER is an object, nothing is made
 * to be quick. ModelTest holds the program against it.
 */
final class Model {
    static final int NONE = -1, UNKNOWN = -1001, OUTSIDE = -1002, NOT = -1003;

    enum State { OUT, WARMING, SERVING, DRAINING }

    static final class Request {
        int attempts = 1;
        int ticksWaited = 0;
    }

    static final class Hand {
        State state = State.OUT;
        int begun = 0;
    }

    static final int[][] BOUNDS = {
        {0, 5, 1}, {0, 5, 1}, {1, 20, 5}, {1, 10, 3}, {1, 4, 1}, {0, 5, 0}, {1, 5, 1}, {0, 12, 1},
        {0, 12, 12}, {0, 10, 0}, {0, 2, 1}, {1, 60, 5}, {0, 400, 10}, {0, 400, 2}, {1, 6, 1},
        {1, 6, 1}, {0, 100, 10}, {0, 100, 4}, {0, 1000, 50}};

    int[] set = new int[19];
    int[] hours = new int[24];
    int[] loads = new int[200];
    boolean[] deaf = new boolean[200];

    int now;
    Hand[] hands;
    ArrayDeque<Request> queue;
    ArrayList<Request> back;
    List<Integer> notes;
    List<int[]> history;
    int reading, wanted, came, done, lost, bill;
    Integer changedAt;

    Model() {
        for (int i = 0; i < 19; i++) {
            set[i] = BOUNDS[i][2];
        }
        begin();
    }

    void begin() {
        now = 0;
        hands = new Hand[12];
        for (int i = 0; i < 12; i++) {
            hands[i] = new Hand();
        }
        queue = new ArrayDeque<>();
        back = new ArrayList<>();
        notes = new ArrayList<>();
        history = new ArrayList<>();
        reading = came = done = lost = bill = 0;
        wanted = NONE;
        changedAt = null;
    }

    int count(State... states) {
        int n = 0;
        for (Hand hand : hands) {
            if (Arrays.asList(states).contains(hand.state)) {
                n++;
            }
        }
        return n;
    }

    int upCount() {
        return count(State.WARMING, State.SERVING);
    }

    void oneTick() {
        queue.addAll(back);
        back.clear();
        for (int i = 0; i < loads[now]; i++) {
            queue.add(new Request());
        }
        came += loads[now];
        int waited = queue.size();
        notes.add(deaf[now] ? null : (Integer) waited);

        double sum = 0;
        int there = 0;
        for (int k = 0; k < set[6]; k++) {
            int t = now - set[5] - k;
            if (t >= 0 && notes.get(t) != null) {
                sum += notes.get(t);
                there++;
            }
        }
        if (there > 0) {
            reading = (int) Math.floor(sum / there);
        }

        int up = upCount();
        if (set[10] == 0) {
            wanted = up;
        } else if (set[10] == 1) {
            wanted = (int) Math.ceil((double) reading / set[11]);
        } else if (reading > set[12]) {
            wanted = up + set[14];
        } else if (reading < set[13]) {
            wanted = up - set[15];
        } else {
            wanted = up;
        }
        int floor = Math.max(hours[now % 24], set[7]);
        if (wanted < floor) {
            wanted = floor;
        }
        if (wanted > set[8]) {
            wanted = set[8];
        }
        floor = Math.min(floor, set[8]);

        boolean held = changedAt != null && now - changedAt < set[9];
        if (wanted != up && !held) {
            moveTo(wanted);
        } else if (held && up < floor) {
            moveTo(floor);
        }

        for (Hand hand : hands) {
            if (hand.state == State.WARMING && now - hand.begun >= set[0]) {
                hand.state = State.SERVING;
            }
        }
        int doneNow = 0;
        int cost = 0;
        for (int i = 0; i < 12; i++) {
            State state = hands[i].state;
            if (state == State.SERVING || state == State.DRAINING) {
                for (int r = 0; r < set[2] && !queue.isEmpty(); r++) {
                    queue.poll();
                    doneNow++;
                }
            }
            if (state != State.OUT) {
                cost += i >= 8 ? set[17] : set[16];
            }
        }
        for (Hand hand : hands) {
            if (hand.state == State.DRAINING && now - hand.begun >= set[1]) {
                hand.state = State.OUT;
            }
        }
        int lostNow = 0;
        ArrayDeque<Request> stay = new ArrayDeque<>();
        for (Request request : queue) {
            request.ticksWaited++;
            if (request.ticksWaited < set[3]) {
                stay.add(request);
            } else if (request.attempts < set[4]) {
                request.attempts++;
                request.ticksWaited = 0;
                back.add(request);
            } else {
                lostNow++;
            }
        }
        queue = stay;
        cost += lostNow * set[18];
        done += doneNow;
        lost += lostNow;
        bill += cost;
        history.add(new int[] {waited, doneNow, lostNow, upCount(), wanted, cost});
        now++;
    }

    void moveTo(int goal) {
        boolean any = false;
        for (int i = 0; i < 12 && upCount() < goal; i++) {
            if (hands[i].state == State.OUT) {
                hands[i].state = State.WARMING;
                hands[i].begun = now;
                any = true;
            }
        }
        for (int i = 11; i >= 0 && upCount() > goal; i--) {
            if (hands[i].state == State.WARMING) {
                hands[i].state = State.OUT;
                any = true;
            }
        }
        for (int i = 11; i >= 0 && upCount() > goal; i--) {
            if (hands[i].state == State.SERVING) {
                hands[i].state = State.DRAINING;
                hands[i].begun = now;
                any = true;
            }
        }
        if (any) {
            changedAt = now;
        }
    }

    int setting(int what, int v) {
        if (what < 0 || what > 18 || v < BOUNDS[what][0] || v > BOUNDS[what][1]) {
            return OUTSIDE;
        }
        int was = set[what];
        set[what] = v;
        if (set[7] > set[8]) {
            set[what] = was;
            return OUTSIDE;
        }
        return was;
    }

    int told(int what) {
        return what < 0 || what > 18 ? OUTSIDE : set[what];
    }

    int load(int tick, int v) {
        if (tick < 0 || tick > 199 || v < 0 || v > 60) {
            return OUTSIDE;
        }
        if (tick < now) {
            return NOT;
        }
        int was = loads[tick];
        loads[tick] = v;
        return was;
    }

    int plan(int hour, int v) {
        if (hour < 0 || hour > 23 || v < 0 || v > 12) {
            return OUTSIDE;
        }
        int was = hours[hour];
        hours[hour] = v;
        return was;
    }

    int lose(int tick, boolean on) {
        if (tick < 0 || tick > 199) {
            return OUTSIDE;
        }
        if (tick < now) {
            return NOT;
        }
        int was = deaf[tick] ? 1 : 0;
        deaf[tick] = on;
        return was;
    }

    int tick(int n) {
        if (n < 0 || n > 200) {
            return OUTSIDE;
        }
        if (now + n > 200) {
            return NOT;
        }
        for (int i = 0; i < n; i++) {
            oneTick();
        }
        return now;
    }

    int fail(int server, boolean taken) {
        if (server < 0 || server > 11) {
            return UNKNOWN;
        }
        if (taken && server < 8) {
            return NOT;
        }
        int was = hands[server].state.ordinal();
        hands[server].state = State.OUT;
        return was;
    }

    int again() {
        int were = now;
        begin();
        return were;
    }

    int server(int server, int what) {
        if (server < 0 || server > 11) {
            return UNKNOWN;
        }
        if (what < 0 || what > 1) {
            return OUTSIDE;
        }
        Hand hand = hands[server];
        if (what == 0) {
            return hand.state.ordinal();
        }
        return hand.state == State.WARMING || hand.state == State.DRAINING ? now - hand.begun - 1 : 0;
    }

    int now(int what) {
        int[] all = {now, queue.size(), back.size(), done, lost, bill, reading, wanted, upCount(),
            count(State.SERVING), count(State.DRAINING), changedAt == null ? NONE : now - changedAt, came};
        return what < 0 || what >= all.length ? OUTSIDE : all[what];
    }

    int was(int tick, int what) {
        if (tick < 0 || tick > 199 || what < 0 || what > 5) {
            return OUTSIDE;
        }
        return tick >= now ? NOT : history.get(tick)[what];
    }

    int digest() {
        int d = 7;
        for (int i = 0; i < 13; i++) {
            d = 31 * d + now(i);
        }
        for (int i = 0; i < 12; i++) {
            d = 31 * d + server(i, 0);
        }
        return d;
    }

    int hindsight(int n) {
        if (n < 1 || n > 24) {
            return OUTSIDE;
        }
        int best = cheapest(0, n, 0, new ArrayList<>(), new HashMap<>());
        return best == Integer.MAX_VALUE ? NONE : best;
    }

    /** The ages of those that wait are all told, oldest first; each choice of a number is tried. */
    private int cheapest(int t, int n, int before, List<Integer> ages, Map<String, Integer> known) {
        if (t == n) {
            return 0;
        }
        String key = t + " " + before + " " + ages.size();
        Integer old = known.get(key);
        if (old != null) {
            return old;
        }
        int best = Integer.MAX_VALUE;
        for (int s = set[7]; s <= set[8]; s++) {
            List<Integer> line = new ArrayList<>();
            for (int age : ages) {
                line.add(age + 1);
            }
            for (int i = 0; i < loads[t]; i++) {
                line.add(1);
            }
            line = line.subList(Math.min(line.size(), s * set[2]), line.size());
            if (!line.isEmpty() && line.get(0) >= set[3]) {
                continue;
            }
            int rest = cheapest(t + 1, n, s, line, known);
            if (rest != Integer.MAX_VALUE) {
                best = Math.min(best, rest + set[16] * (s + Math.max(0, s - before)));
            }
        }
        known.put(key, best);
        return best;
    }

    private Model fresh() {
        Model other = new Model();
        other.set = set;
        other.hours = hours;
        return other;
    }

    int worst(int n, int a, int what) {
        if (n < 1 || n > 6 || a < 1 || a > 60 || what < 0 || what > 1) {
            return OUTSIDE;
        }
        int best = -1;
        String bestRow = "";
        for (int number = 0; number < 1 << n; number++) {
            Model other = fresh();
            StringBuilder row = new StringBuilder();
            for (int k = 0; k < n; k++) {
                boolean loaded = (number & 1 << k) != 0;
                other.loads[k] = loaded ? a : 0;
                row.append(loaded ? 'a' : '0');
            }
            other.tick(n + 10);
            if (other.lost > best || other.lost == best && row.toString().compareTo(bestRow) < 0) {
                best = other.lost;
                bestRow = row.toString();
            }
        }
        int bits = 0;
        for (int k = 0; k < n; k++) {
            bits += bestRow.charAt(k) == 'a' ? 1 << k : 0;
        }
        return what == 0 ? best : bits;
    }

    int swing(int a, int what) {
        if (a < 0 || a > 60 || what < 0 || what > 2) {
            return OUTSIDE;
        }
        Model other = fresh();
        Arrays.fill(other.loads, a);
        other.tick(148);
        int min = 99;
        int max = -99;
        for (int t = 100; t <= 147; t++) {
            min = Math.min(min, other.history.get(t)[3]);
            max = Math.max(max, other.history.get(t)[3]);
        }
        return what == 0 ? (min != max ? 1 : 0) : what == 1 ? min : max;
    }
}
