import java.util.Random;

/** Runs of calls by a fixed seed: the program answers each call as the model does. */
public final class ModelTest {
    private static final int RUNS = 1500;
    private static final int CALLS = 250;

    private static final Random random = new Random(20261119L);
    private static MoreHands x;
    private static Model m;
    private static String told;

    public static void main(String[] args) {
        for (int run = 0; run < RUNS; run++) {
            x = new MoreHands();
            m = new Model();
            begin();
            for (int call = 0; call < CALLS; call++) {
                oneCall();
            }
        }
        Due.end();
    }

    /** A number in the bounds, now and then one at a bound or just out of it. */
    private static int number(int lowest, int highest) {
        switch (random.nextInt(24)) {
            case 0: return lowest - 1;
            case 1: return highest + 1;
            case 2: return lowest;
            case 3: return highest;
            case 4: return random.nextInt(40) == 0 ? random.nextInt() : lowest;
            default: return lowest + random.nextInt(highest - lowest + 1);
        }
    }

    private static void begin() {
        for (int what = 0; what <= 18; what++) {
            if (random.nextInt(3) > 0) {
                changeSetting(what);
            }
        }
        int busiest = random.nextInt(61);
        for (int tick = 0; tick < 60; tick++) {
            if (random.nextInt(3) > 0) {
                int v = random.nextInt(busiest + 1);
                due("load(" + tick + ", " + v + ")", x.load(tick, v), m.load(tick, v));
            }
        }
        for (int hour = 0; hour < 24; hour++) {
            if (random.nextInt(12) == 0) {
                int v = number(0, 12);
                due("plan(" + hour + ", " + v + ")", x.plan(hour, v), m.plan(hour, v));
            }
        }
    }

    private static void changeSetting(int what) {
        int v = what == 16 || what == 18 ? random.nextInt(90) : number(Model.BOUNDS[what][0], Model.BOUNDS[what][1]);
        due("setting(" + what + ", " + v + ")", x.setting(what, v), m.setting(what, v));
    }

    private static void oneCall() {
        int a;
        int b;
        switch (random.nextInt(20)) {
            case 0:
                changeSetting(random.nextInt(19));
                break;
            case 1:
                a = number(0, 18);
                due("told(" + a + ")", x.told(a), m.told(a));
                break;
            case 2:
            case 3:
                a = random.nextBoolean() ? number(0, 199) : m.now + random.nextInt(5);
                b = number(0, 60);
                due("load(" + a + ", " + b + ")", x.load(a, b), m.load(a, b));
                break;
            case 4:
                a = number(0, 23);
                b = number(0, 12);
                due("plan(" + a + ", " + b + ")", x.plan(a, b), m.plan(a, b));
                break;
            case 5:
                a = random.nextBoolean() ? number(0, 199) : m.now + random.nextInt(4);
                boolean on = random.nextInt(3) > 0;
                due("lose(" + a + ", " + on + ")", x.lose(a, on), m.lose(a, on));
                break;
            case 6:
            case 7:
            case 8:
                a = random.nextInt(8) == 0 ? number(0, 200) : random.nextInt(5);
                due("tick(" + a + ")", x.tick(a), m.tick(a));
                break;
            case 9:
                a = number(0, 11);
                boolean back = random.nextBoolean();
                due("fail(" + a + ", " + back + ")", x.fail(a, back), m.fail(a, back));
                break;
            case 10:
                if (random.nextInt(8) == 0) {
                    due("again()", x.again(), m.again());
                }
                break;
            case 11:
            case 12:
                a = number(0, 11);
                b = number(0, 1);
                due("server(" + a + ", " + b + ")", x.server(a, b), m.server(a, b));
                break;
            case 13:
            case 14:
                a = number(0, 12);
                due("now(" + a + ")", x.now(a), m.now(a));
                break;
            case 15:
                a = random.nextBoolean() ? number(0, 199) : random.nextInt(m.now + 1);
                b = number(0, 5);
                due("was(" + a + ", " + b + ")", x.was(a, b), m.was(a, b));
                break;
            case 16:
                a = random.nextInt(12) == 0 ? number(0, 24) : number(1, 5);
                due("hindsight(" + a + ")", x.hindsight(a), m.hindsight(a));
                break;
            case 17:
                a = random.nextInt(5) == 0 ? number(1, 6) : number(1, 3);
                b = number(1, 60);
                int what = number(0, 1);
                due("worst(" + a + ", " + b + ", " + what + ")", x.worst(a, b, what), m.worst(a, b, what));
                break;
            case 18:
                if (random.nextInt(3) == 0) {
                    a = number(0, 60);
                    b = number(0, 2);
                    due("swing(" + a + ", " + b + ")", x.swing(a, b), m.swing(a, b));
                }
                break;
            default:
                due("digest()", x.digest(), m.digest());
        }
    }

    private static void due(String call, int got, int want) {
        Due.is(call, got, want);
    }
}
