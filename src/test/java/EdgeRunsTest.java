import java.util.Random;

/** Runs of all calls whose arguments lie mostly at edges and far out, held against PlainMails. */
public final class EdgeRunsTest {
    private static final Due DUE = new Due("EdgeRunsTest");
    private static final int[] EDGES = {
        Integer.MIN_VALUE, Integer.MIN_VALUE + 1, -1441, -61, -60, -2, -1, 7, 8, 9, 10, 11, 12, 13, 14, 15, 16, 17, 19,
        20, 21, 23, 24, 25, 59, 60, 61, 98, 99, 100, 101, 119, 120, 121, 299, 300, 301, 580, 581, 600, 601, 998, 999,
        1000, 1439, 1440, 1441, 2399, 2400, 2401, 2999, 3000, 3001, 4095, 4096, 10078, 10079, 10080,
        Integer.MAX_VALUE - 1, Integer.MAX_VALUE
    };
    private static final String[] TEXTS = {
        "", "charge 1 / 0;", "charge miles * sheets when day < 3; charge 9 when hour = 23; frank 2; dead 1;",
        "late 7 after 1439; ship 3; sign 4; dead 0;", "late 7 after 1440;", "frank 100;", "charge 12345;", "ship",
        "charge 0 - 1; late 9 after 0; sign 9999;", "charge kind when not cross = 1 and weight > 50;"
    };

    private final Random random;
    private final long seed;
    private final InlandMails x = new InlandMails();
    private final PlainMails y = new PlainMails();
    private int calls;

    private EdgeRunsTest(long seed) {
        this.seed = seed;
        this.random = new Random(seed);
    }

    public static void main(String[] args) {
        int runs = args.length > 1 ? Integer.parseInt(args[1]) : 60;
        long first = args.length > 2 ? Long.parseLong(args[2]) : 1;
        for (long seed = first; seed < first + runs && !DUE.failed(); seed++) {
            EdgeRunsTest test = new EdgeRunsTest(seed);
            if (seed % 5 != 0) {
                test.furnish();
            }
            for (int n = 0; n < 400 && !DUE.failed(); n++) {
                test.call();
            }
        }
        DUE.close();
    }

    private void due(String call, long got, long want) {
        calls++;
        DUE.is("seed " + seed + " call " + calls + " " + call, got, want);
    }

    private void due(String call, boolean got, boolean want) {
        due(call, got ? 1 : 0, want ? 1 : 0);
    }

    /** A number below a bound, or an edge. */
    private int any(int bound) {
        return random.nextInt(5) > 0 ? random.nextInt(bound) : EDGES[random.nextInt(EDGES.length)];
    }

    private int what() {
        return any(random.nextInt(3) == 0 ? 26 : 6);
    }

    private void furnish() {
        for (int a = 0; a < 5; a++) {
            due("town()", x.town(), y.town());
            road(a, a / 2, 10 * a);
        }
        for (int t = 0; t < 4; t++) {
            due("train()", x.train(), y.train());
            int stops = 1 + random.nextInt(8);
            for (int i = 0; i < stops; i++) {
                int minute = 50 * i + 9 * t;
                stop(t, random.nextInt(5), minute, minute + random.nextInt(2), random.nextInt(3) == 0);
            }
        }
        for (int l = 0; l < 12; l++) {
            post(l % 5, random.nextInt(5), random.nextInt(5), 1 + l % 9, l, l % 3);
            due("sorter", x.sorter(1 + l, 31), y.sorter(1 + l, 31));
            due("seat", x.seat(l, random.nextInt(1)), y.seat(l, 0));
            due("nobody", x.nobody(l - 6), y.nobody(l - 6));
        }
    }

    private void road(int a, int b, int miles) {
        due("road(" + a + ", " + b + ", " + miles + ")", x.road(a, b, miles), y.road(a, b, miles));
    }

    private void stop(int t, int town, int comes, int goes, boolean fast) {
        due("stop(" + t + ", " + town + ", " + comes + ", " + goes + ", " + fast + ")",
            x.stop(t, town, comes, goes, fast), y.stop(t, town, comes, goes, fast));
    }

    private void post(int kind, int from, int to, int sheets, int weight, int who) {
        due("post(" + kind + ", " + from + ", " + to + ", " + sheets + ", " + weight + ", " + who + ")",
            x.post(kind, from, to, sheets, weight, who), y.post(kind, from, to, sheets, weight, who));
    }

    private void call() {
        int which = random.nextInt(42);
        int l = any(14);
        int t = any(5);
        int d = any(7);
        if (which < 8) {
            callOfTable(which, t, d);
        } else if (which < 14) {
            callOfActs(which);
        } else if (which < 22) {
            callOfLetters(which, l);
        } else if (which < 32) {
            callOfCarrying(which, l, t, d);
        } else {
            callOfTrials(which, t, d);
        }
    }

    private void callOfTable(int which, int t, int d) {
        int a = any(6);
        int b = any(6);
        int n = any(300);
        int what = what();
        switch (which) {
            case 0: due("town()", x.town(), y.town()); break;
            case 1: road(a, b, n); break;
            case 2: due("miles(" + a + ", " + b + ")", x.miles(a, b), y.miles(a, b)); break;
            case 3: due("train()", x.train(), y.train()); break;
            case 4: stop(t, a, n, random.nextInt(3) == 0 ? n : any(2401), random.nextBoolean()); break;
            case 5: due("stopOf(" + t + ", " + b + ", " + what + ")", x.stopOf(t, b, what), y.stopOf(t, b, what)); break;
            case 6: due("late(" + t + ", " + d + ", " + n + ")", x.late(t, d, n), y.late(t, d, n)); break;
            default: due("miss(" + t + ", " + d + ", " + b + ")", x.miss(t, d, b), y.miss(t, d, b)); break;
        }
    }

    private void callOfActs(int which) {
        int n = any(20);
        int what = what();
        switch (which) {
            case 8: due("look(" + what + ")", x.look(what), y.look(what)); break;
            case 9: due("feed", x.feed(n, what, -n, 1 << n, 59), y.feed(n, what, -n, 1 << n, 59)); break;
            case 10: due("end(" + n + ")", x.end(n), y.end(n)); break;
            case 11: act(); break;
            case 12: due("fault(" + what + ")", x.fault(what), y.fault(what)); break;
            default: due("inForce(" + n + ", " + what + ")", x.inForce(n % 9, what), y.inForce(n % 9, what)); break;
        }
    }

    private void act() {
        String text = TEXTS[random.nextInt(TEXTS.length)];
        if (random.nextInt(9) > 0) {
            due("end(0)", x.end(0), y.end(0));
        }
        for (int i = 0; i < text.length(); i += 20) {
            int[] five = Due.fiveOf(text, i);
            due("feed", x.feed(five[0], five[1], five[2], five[3], five[4]), y.feed(five));
        }
        int day = any(3);
        due("act(" + day + ") of " + text, x.act(day), y.act(day));
        due("fault(0)", x.fault(0), y.fault(0));
        due("fault(1)", x.fault(1), y.fault(1));
    }

    private void callOfLetters(int which, int l) {
        int a = any(6);
        int b = any(6);
        int what = what();
        switch (which) {
            case 14: case 15: post(any(5), a, b, any(10), any(100), any(10)); break;
            case 16: due("of(" + l + ", " + what + ")", x.of(l, what), y.of(l, what)); break;
            case 17: due("charge(" + l + ", " + what + ")", x.charge(l, what), y.charge(l, what)); break;
            case 18:
                int minute = any(10081);
                String call = "way(" + a + ", " + minute + ", " + b + ", " + what + ")";
                due(call, x.way(a, minute, b, what), y.way(a, minute, b, what));
                break;
            case 19: due("lead(" + l + ", " + b + ", " + what + ")", x.lead(l, b, what), y.lead(l, b, what)); break;
            case 20: where(l, what); break;
            default: due("account(" + a + ", " + b + ", " + what + ")", x.account(a, b, what), y.account(a, b, what));
        }
    }

    private void where(int l, int what) {
        int minute = random.nextInt(3) == 0 ? any(10080) : random.nextInt(y.now + 2);
        String call = "where(" + l + ", " + minute + ", " + what + ")";
        due(call, x.where(l, minute, what), y.where(l, minute, what));
    }

    private void callOfCarrying(int which, int l, int t, int d) {
        int a = any(6);
        int n = any(200);
        int what = what();
        switch (which) {
            case 22: case 23: due("minutes(" + n + ")", x.minutes(n), y.minutes(n)); break;
            case 24: due("sorter(" + n + ", " + what + ")", x.sorter(n, what), y.sorter(n, what)); break;
            case 25: due("seat(" + a + ", " + t + ")", x.seat(a, t), y.seat(a, t)); break;
            case 26: due("run(" + t + ", " + d + ", " + what + ")", x.run(t, d, what), y.run(t, d, what)); break;
            case 27: due("nobody(" + l + ")", x.nobody(l), y.nobody(l)); break;
            case 28: case 29: due("place(" + l + ", " + a + ", " + n + ")", x.place(l, a, n), y.place(l, a, n)); break;
            case 30: due("order(" + l + ", " + what + ")", x.order(l, what), y.order(l, what)); break;
            default: due("found(" + l + ", " + a + ")", x.found(l, a), y.found(l, a)); break;
        }
    }

    private void callOfTrials(int which, int t, int d) {
        int n = any(301);
        int k = any(7);
        int what = what();
        int m = random.nextInt(3) == 0 ? any(10080) : y.now + random.nextInt(5) - 2;
        switch (which) {
            case 32: due("rob(" + t + ", " + d + ")", x.rob(t, d), y.rob(t, d)); break;
            case 33: due("rob of today", x.rob(t, y.now / 1440), y.rob(t, y.now / 1440)); break;
            case 34: due("robbery(" + k + ", " + what + ")", x.robbery(k, what), y.robbery(k, what)); break;
            case 35: due("set(" + t + ")", x.set(t), y.set(t)); break;
            case 36: due("seen(" + t + ", " + m + ")", x.seen(t, m), y.seen(t, m)); break;
            case 37: due("clock(" + t + ", " + what + ")", x.clock(t, what), y.clock(t, what)); break;
            case 38: due("trueMinute(" + t + ", " + m + ")", x.trueMinute(t, m, k), y.trueMinute(t, m, k)); break;
            case 39: due("tried(" + k + ")", x.tried(k), y.tried(k)); break;
            case 40: due("whatIf(" + t + ", " + d + ", " + n + ")", x.whatIf(t, d, n), y.whatIf(t, d, n)); break;
            default:
                if (y.trains.size() < 3) {
                    due("seats(" + what + ")", x.seats(what), y.seats(what));
                }
        }
    }
}
