import java.util.Random;

/** Holds InlandMails against PlainMails in runs of calls drawn from fixed seeds. */
public final class RandomRunsTest {
    private static final String[] ASKED = {"miles", "sheets", "weight", "hour", "day", "kind", "cross"};
    private static final String STRAY = "abcdeZ09;+-*/()<=> \n\t$\u00e9notwhenor";
    private static final Due DUE = new Due("RandomRunsTest");

    private final Random random;
    private final long seed;
    private final InlandMails x = new InlandMails();
    private final PlainMails y = new PlainMails();
    private int calls;

    private RandomRunsTest(long seed) {
        this.seed = seed;
        this.random = new Random(seed);
    }

    public static void main(String[] args) {
        int runs = args.length > 1 ? Integer.parseInt(args[1]) : 40;
        long first = args.length > 2 ? Long.parseLong(args[2]) : 1;
        for (long seed = first; seed < first + runs && !DUE.failed(); seed++) {
            new RandomRunsTest(seed).play();
        }
        for (long seed = first; seed < first + 20L * runs && !DUE.failed(); seed++) {
            new RandomRunsTest(seed).playActs();
        }
        DUE.close();
    }

    private int below(int n) {
        return random.nextInt(n);
    }

    private boolean oneIn(int n) {
        return random.nextInt(n) == 0;
    }

    private void due(String call, long got, long want) {
        calls++;
        DUE.is("seed " + seed + " call " + calls + " " + call, got, want);
    }

    private void due(String call, boolean got, boolean want) {
        due(call, got ? 1 : 0, want ? 1 : 0);
    }

    /** A number of what there is, at times one that is not. */
    private int pick(int count) {
        return oneIn(25) ? below(count + 3) - 2 : below(Math.max(count, 1));
    }

    private void play() {
        int towns = 2 + below(oneIn(3) ? 11 : 5);
        for (int a = 0; a < towns; a++) {
            due("town()", x.town(), y.town());
        }
        for (int k = 0; k < towns * 2; k++) {
            road();
        }
        int trains = 1 + below(oneIn(3) ? 11 : 4);
        for (int t = 0; t < trains; t++) {
            train();
        }
        for (int k = below(3); k > 0; k--) {
            act();
        }
        for (int k = below(5); k > 0; k--) {
            sorter();
        }
        int steps = 60 + below(200);
        for (int k = 0; k < steps && !DUE.failed(); k++) {
            step();
            if (oneIn(8)) {
                compareAll();
            }
        }
        compareAll();
    }

    private void playActs() {
        for (int k = 0; k < 4; k++) {
            act();
            for (int what = 0; what < 9; what++) {
                int day = pick(7);
                due("inForce", x.inForce(day, what), y.inForce(day, what));
            }
        }
        due("town()", x.town(), y.town());
        due("town()", x.town(), y.town());
        due("town()", x.town(), y.town());
        road();
        road();
        for (int k = 0; k < 12; k++) {
            post();
            minutes(1 + below(900));
        }
        compareLetters();
        for (int k = -1; k < 6; k++) {
            due("tried(" + k + ")", x.tried(k), y.tried(k));
        }
    }

    private void road() {
        int a = pick(y.towns);
        int b = pick(y.towns);
        int miles = oneIn(20) ? below(3) * 500 : 1 + below(oneIn(4) ? 999 : 20);
        due("road(" + a + ", " + b + ", " + miles + ")", x.road(a, b, miles), y.road(a, b, miles));
    }

    private void train() {
        due("train()", x.train(), y.train());
        int t = y.trains.size() - 1;
        int minute = below(oneIn(4) ? 1500 : 300);
        int stops = 1 + below(8);
        int pace = 1 + below(oneIn(3) ? 300 : 60);
        for (int i = 0; i < stops; i++) {
            boolean fast = oneIn(3);
            int goes = minute + (fast ? 0 : below(12));
            int town = pick(y.towns);
            due("stop(" + t + ", " + town + ", " + minute + ", " + goes + ", " + fast + ")",
                x.stop(t, town, minute, goes, fast), y.stop(t, town, minute, goes, fast));
            minute = goes + (oneIn(15) ? 0 : 1 + below(pace));
        }
    }

    private String sum(int depth) {
        StringBuilder text = new StringBuilder(product(depth));
        for (int k = below(3); k > 0; k--) {
            text.append(oneIn(2) ? " + " : "-").append(product(depth));
        }
        return text.toString();
    }

    private String product(int depth) {
        StringBuilder text = new StringBuilder(unit(depth));
        for (int k = below(3); k > 0; k--) {
            text.append(oneIn(2) ? " * " + unit(depth) : "/" + (oneIn(15) ? "0" : "" + (1 + below(20))));
        }
        return text.toString();
    }

    private String unit(int depth) {
        if (depth > 0 && oneIn(4)) {
            return "(" + sum(depth - 1) + ")";
        }
        return oneIn(2) ? ASKED[below(7)] : "" + below(oneIn(5) ? 12000 : 30);
    }

    private String test() {
        StringBuilder text = new StringBuilder();
        while (oneIn(4)) {
            text.append("not ");
        }
        String sign = "" + "<=>".charAt(below(3));
        text.append(sum(1)).append(oneIn(2) ? sign : " " + sign + " ").append(sum(1));
        return text.toString();
    }

    private String tests() {
        StringBuilder text = new StringBuilder(test());
        while (oneIn(2)) {
            text.append(oneIn(2) ? " and " : " or ").append(test());
        }
        return text.toString();
    }

    private String line() {
        switch (below(9)) {
            case 0: return "late " + below(20) + " after " + below(1500);
            case 1: return "frank " + below(oneIn(5) ? 120 : 4);
            case 2: return "ship " + below(9);
            case 3: return "sign " + below(9);
            case 4: return "dead " + below(5);
            case 5: return "charge " + sum(oneIn(9) ? 10 : 2);
            default: return "charge " + sum(2) + " when " + tests();
        }
    }

    private String text() {
        StringBuilder text = new StringBuilder();
        int lines = oneIn(12) ? 20 + below(10) : below(9);
        for (int k = 0; k < lines; k++) {
            String line = lines > 15 && !oneIn(5) ? "ship " + k : line();
            text.append(line).append(oneIn(2) ? ";" : " ;\n");
        }
        if (oneIn(10)) {
            text.append("charge 1 when ");
            for (int k = 5 + below(6); k > 0; k--) {
                text.append("not ");
            }
            for (int k = below(4); k > 0; k--) {
                text.append("(");
            }
            text.append("1 = 1;");
        }
        for (int k = oneIn(3) ? 1 + below(2) : 0; k > 0 && text.length() > 0; k--) {
            int at = below(text.length());
            if (oneIn(2)) {
                text.deleteCharAt(at);
            } else {
                text.insert(at, STRAY.charAt(below(STRAY.length())));
            }
        }
        return text.length() > 600 ? text.substring(0, 600) : text.toString();
    }

    private void act() {
        String text = text();
        due("end(0)", x.end(0), y.end(0));
        for (int i = 0; i < text.length(); i += 20) {
            int[] five = Due.fiveOf(text, i);
            due("feed", x.feed(five[0], five[1], five[2], five[3], five[4]), y.feed(five));
        }
        int n = oneIn(20) ? below(700) - 20 : text.length();
        due("end(" + n + ")", x.end(n), y.end(n));
        int day = oneIn(4) ? pick(7) : y.acts.isEmpty() ? 0 : y.acts.get(y.acts.size() - 1).day;
        due("act(" + day + ") of " + text, x.act(day), y.act(day));
        due("fault(0) of " + text, x.fault(0), y.fault(0));
        due("fault(1) of " + text, x.fault(1), y.fault(1));
    }

    private void sorter() {
        int speed = oneIn(20) ? 0 : oneIn(3) ? 1 + below(99) : 1;
        int knows = oneIn(30) ? 4096 : oneIn(3) ? 4095 : below(1 << y.towns);
        due("sorter", x.sorter(speed, knows), y.sorter(speed, knows));
        int s = y.sorters.size() - 1;
        int t = oneIn(8) ? PlainMails.NONE : pick(y.trains.size());
        due("seat", x.seat(s, t), y.seat(s, t));
    }

    private void post() {
        int kind = oneIn(20) ? 5 : below(5);
        int from = pick(y.towns);
        int to = pick(y.towns);
        int sheets = oneIn(20) ? 10 : 1 + below(9);
        int weight = oneIn(20) ? 100 : below(100);
        int who = oneIn(20) ? 10 : below(3);
        due("post", x.post(kind, from, to, sheets, weight, who), y.post(kind, from, to, sheets, weight, who));
    }

    private void minutes(int n) {
        due("minutes(" + n + ")", x.minutes(n), y.minutes(n));
    }

    private void step() {
        int t = pick(y.trains.size());
        int d = oneIn(3) ? pick(7) : y.now / 1440;
        int l = pick(y.letters.size());
        switch (below(24)) {
            case 0: case 1: case 2: case 3: case 4: post(); break;
            case 5: case 6: case 7: minutes(1 + below(oneIn(6) ? 3002 : 150)); break;
            case 8: late(t, d); break;
            case 9: miss(t, d); break;
            case 10: way(); break;
            case 11: act(); break;
            case 12: sorter(); break;
            case 13: due("seat", x.seat(l % 9, t), y.seat(l % 9, t)); break;
            case 14: case 15: due("nobody(" + l + ")", x.nobody(l), y.nobody(l)); break;
            case 16: dead(); break;
            case 17: rob(t, d, l); break;
            case 18: due("set(" + t + ")", x.set(t), y.set(t)); break;
            case 19: seen(t); break;
            case 20: whatIf(t, d); break;
            case 21: seats(); break;
            case 22: road(); break;
            default: due("stop", x.stop(t, 0, 0, 2400, false), y.stop(t, 0, 0, 2400, false)); break;
        }
    }

    /** Mostly the run in which a letter lies. */
    private void rob(int t, int d, int l) {
        boolean aboard = y.of(l, 7) == 1 && !oneIn(4);
        int itsTrain = aboard ? y.of(l, 8) % 10 : t;
        int itsDay = aboard ? y.of(l, 8) / 10 : d;
        due("rob(" + itsTrain + ", " + itsDay + ")", x.rob(itsTrain, itsDay), y.rob(itsTrain, itsDay));
    }

    private void late(int t, int d) {
        int n = oneIn(4) ? below(303) : below(40);
        due("late(" + t + ", " + d + ", " + n + ")", x.late(t, d, n), y.late(t, d, n));
    }

    private void miss(int t, int d) {
        for (int k = -1; k < 15; k++) {
            int i = k % 8;
            if (oneIn(3)) {
                due("miss(" + t + ", " + d + ", " + i + ")", x.miss(t, d, i), y.miss(t, d, i));
            }
        }
    }

    private void way() {
        int a = pick(y.towns);
        int b = pick(y.towns);
        int minute = y.now + below(oneIn(5) ? 10080 : 500) - (oneIn(10) ? 9 : 0);
        for (int what = -1; what < 7; what++) {
            String call = "way(" + a + ", " + minute + ", " + b + ", " + what + ")";
            due(call, x.way(a, minute, b, what), y.way(a, minute, b, what));
        }
    }

    private void dead() {
        for (int l = 0; l < y.letters.size(); l++) {
            if (y.letters.get(l).state == 3) {
                for (int k = below(7); k > 0; k--) {
                    int town = pick(y.towns);
                    int chance = oneIn(15) ? below(2) * 100 : 1 + below(oneIn(2) ? 3 : 99);
                    due("place", x.place(l, town, chance), y.place(l, town, chance));
                }
                int town = pick(y.towns);
                if (oneIn(3)) {
                    due("found", x.found(l, town), y.found(l, town));
                }
            }
        }
    }

    private void seen(int t) {
        int m = y.now + below(9) - 4;
        due("seen(" + t + ", " + m + ")", x.seen(t, m), y.seen(t, m));
        m = oneIn(3) ? below(10080) : Math.min(y.now + below(2000), 10081);
        due("trueMinute 0", x.trueMinute(t, m, 0), y.trueMinute(t, m, 0));
        due("trueMinute 1", x.trueMinute(t, m, 1), y.trueMinute(t, m, 1));
        due("trueMinute 2", x.trueMinute(t, m, 2), y.trueMinute(t, m, 2));
        for (int what = -1; what < 4; what++) {
            due("clock", x.clock(t, what), y.clock(t, what));
        }
    }

    private void whatIf(int t, int d) {
        int n = below(301);
        if (oneIn(3)) {
            due("whatIf(-1, 0, 0)", x.whatIf(-1, 0, 0), y.whatIf(-1, 0, 0));
        }
        due("whatIf(" + t + ", " + d + ", " + n + ")", x.whatIf(t, d, n), y.whatIf(t, d, n));
    }

    private void seats() {
        if (y.trains.size() < 4 && oneIn(2)) {
            int what = new int[] {0, 10, 11, 12, 1}[below(5)];
            due("seats(" + what + ")", x.seats(what), y.seats(what));
        }
    }

    private void compareAll() {
        compareLetters();
        for (int t = -1; t <= y.trains.size(); t++) {
            for (int d = -1; d < 8; d++) {
                for (int what = -1; what < 6; what++) {
                    due("run(" + t + ", " + d + ", " + what + ")", x.run(t, d, what), y.run(t, d, what));
                }
            }
            for (int i = -2; i < 9; i++) {
                for (int what = -1; what < 5; what++) {
                    due("stopOf", x.stopOf(t, i, what), y.stopOf(t, i, what));
                }
            }
        }
        for (int a = -1; a <= y.towns; a++) {
            for (int b = -1; b <= y.towns; b++) {
                due("miles(" + a + ", " + b + ")", x.miles(a, b), y.miles(a, b));
                for (int what = -1; what < 14; what++) {
                    due("account", x.account(a, b, what), y.account(a, b, what));
                }
            }
        }
        for (int k = -1; k <= y.robberies.size(); k++) {
            for (int what = -1; what < 16; what++) {
                due("robbery(" + k + ", " + what + ")", x.robbery(k, what), y.robbery(k, what));
            }
        }
        for (int k = -1; k < 7; k++) {
            due("tried(" + k + ")", x.tried(k), y.tried(k));
        }
        for (int what = -1; what < 19; what++) {
            due("look(" + what + ")", x.look(what), y.look(what));
        }
    }

    private void compareLetters() {
        for (int l = -1; l <= y.letters.size(); l++) {
            for (int what = -1; what < 14; what++) {
                due("of(" + l + ", " + what + ")", x.of(l, what), y.of(l, what));
                due("charge(" + l + ", " + what + ")", x.charge(l, what), y.charge(l, what));
            }
            for (int i = -1; i < 12; i++) {
                for (int what = -1; what < 4; what++) {
                    due("lead(" + l + ", " + i + ", " + what + ")", x.lead(l, i, what), y.lead(l, i, what));
                }
            }
            int minute = below(y.now + 2);
            for (int what = -1; what < 3; what++) {
                due("where", x.where(l, minute, what), y.where(l, minute, what));
            }
            for (int what = -1; what < 26; what++) {
                due("order(" + l + ", " + what + ")", x.order(l, what), y.order(l, what));
            }
        }
    }
}
