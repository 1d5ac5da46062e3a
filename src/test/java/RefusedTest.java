import java.util.List;

/**
 * "NONE (or false), and nothing is done": of each call that tells something, each argument that can't
 * be, at its edges and far out, in a land where much is under way. All answers are the same behind it,
 * and what goes on from there goes on as in a twin to whom none of it was told.
 */
public final class RefusedTest {
    private static final Due DUE = new Due("RefusedTest");
    private static final int NONE = InlandMails.NONE;
    private static final int LEAST = Integer.MIN_VALUE;
    private static final int MOST = Integer.MAX_VALUE;
    private static InlandMails x;
    private static List<Long> ahead;

    public static void main(String[] args) {
        begin(Land.young());
        stops();
        tables();
        sorters();
        letters();
        tellings(new int[] {LEAST, -2, -1, 4, MOST});
        end(Land.young());
        begin(Land.busy());
        tables();
        sorters();
        letters();
        tellings(new int[] {LEAST, -2, -1, 4, 10, MOST});
        busyRuns();
        busyLetters();
        busyClocks();
        tooFar();
        end(Land.busy());
        fullTowns();
        fullLetters();
        fullRobberies();
        fullSorters();
        DUE.close();
    }

    private static void begin(InlandMails land) {
        x = land;
        ahead = Answers.of(x);
    }

    /** Minute 10079 comes as in a land to which nothing was told. */
    private static void end(InlandMails twin) {
        Land.upTo(x, 10079);
        Land.upTo(twin, 10079);
        DUE.is("all goes on as in a twin", Answers.of(x).equals(Answers.of(twin)), true);
    }

    private static void refused(String call, int got) {
        DUE.is(call, got, NONE);
        DUE.is("nothing is done by " + call, Answers.of(x).equals(ahead), true);
    }

    private static void refused(String call, boolean got) {
        DUE.is(call, got, false);
        DUE.is("nothing is done by " + call, Answers.of(x).equals(ahead), true);
    }

    /** Promise 6, at minute 0: train 0 has four stops, the last in town 3 at 240; train 3 has none. */
    private static void stops() {
        for (int t : new int[] {LEAST, -2, -1, 4, 10, MOST}) {
            refused("a stop of train " + t, x.stop(t, 0, 300, 300, false));
        }
        for (int town : new int[] {LEAST, -1, 6, 12, MOST}) {
            refused("a stop in town " + town, x.stop(0, town, 300, 300, false));
        }
        refused("a stop in the town of the one ahead", x.stop(0, 3, 300, 300, false));
        refused("comes as the one ahead goes", x.stop(0, 1, 240, 300, false));
        refused("comes ahead of it", x.stop(0, 1, 239, 300, false));
        refused("goes ahead of its coming", x.stop(0, 1, 300, 299, false));
        refused("goes at 2401", x.stop(0, 1, 300, 2401, false));
        refused("comes at 2401", x.stop(0, 1, 2401, 2401, true));
        refused("goes at the greatest int", x.stop(0, 1, 300, MOST, false));
        refused("comes at the greatest int", x.stop(0, 1, MOST, MOST, false));
        refused("fast, and stays", x.stop(0, 1, 300, 301, true));
        refused("the first comes at -1", x.stop(3, 1, -1, 5, false));
        refused("the first comes at the least int", x.stop(3, 1, LEAST, 5, false));
        refused("the first goes at -1", x.stop(3, 1, -1, -1, true));
    }

    /** Promises 3, 8 to 10: towns are 0 .. 5, trains 0 .. 3. */
    private static void tables() {
        for (int a : new int[] {LEAST, -1, 6, 11, 12, MOST}) {
            refused("a road from " + a, x.road(a, 0, 9));
            refused("a road to " + a, x.road(0, a, 9));
            refused("a road within " + a, x.road(a, a, 9));
        }
        refused("a road within a town", x.road(2, 2, 9));
        for (int miles : new int[] {LEAST, -1, 0, 1000, MOST}) {
            refused("a road of miles " + miles, x.road(0, 1, miles));
            refused("a first road of miles " + miles, x.road(4, 5, miles));
        }
        for (int n : new int[] {LEAST, -3000, -1, 0, 3001, 10079, MOST}) {
            refused("minutes(" + n + ")", x.minutes(n));
        }
    }

    private static void tellings(int[] trains) {
        for (int t : trains) {
            refused("late of train " + t, x.late(t, 5, 9));
            refused("miss of train " + t, x.miss(t, 5, 1));
            refused("rob of train " + t, x.rob(t, 2));
            refused("set of train " + t, x.set(t));
            refused("seen of train " + t, x.seen(t, x.look(0)));
            if (t != NONE) {
                refused("whatIf of train " + t, x.whatIf(t, 5, 9));
                refused("a seat in train " + t, x.seat(0, t));
            }
        }
        for (int d : new int[] {LEAST, -1, 7, MOST}) {
            refused("late on day " + d, x.late(0, d, 9));
            refused("miss on day " + d, x.miss(2, d, 1));
            refused("rob on day " + d, x.rob(0, d));
            refused("whatIf on day " + d, x.whatIf(0, d, 9));
        }
        for (int n : new int[] {LEAST, -1, 301, MOST}) {
            refused("late by " + n, x.late(0, 5, n));
            refused("whatIf late by " + n, x.whatIf(0, 5, n));
        }
        refused("late without stops", x.late(3, 5, 9));
        refused("whatIf without stops", x.whatIf(3, 5, 9));
        for (int i : new int[] {LEAST, -1, 4, 8, MOST}) {
            refused("miss of stop " + i, x.miss(2, 5, i));
        }
        refused("miss of a stop that is not fast", x.miss(2, 5, 0));
        refused("miss of the last stop, though fast", x.miss(0, 5, 3));
        refused("miss without stops", x.miss(3, 5, 0));
        for (int m : new int[] {LEAST, -1, 10080, MOST}) {
            refused("seen at " + m, x.seen(0, m));
        }
    }

    /** Promises 23, 24: sorters are 0 .. 2. */
    private static void sorters() {
        for (int speed : new int[] {LEAST, -1, 0, 100, MOST}) {
            refused("a sorter of speed " + speed, x.sorter(speed, 1));
        }
        for (int knows : new int[] {LEAST, -1, 4096, 8191, MOST}) {
            refused("a sorter who knows " + knows, x.sorter(1, knows));
        }
        for (int s : new int[] {LEAST, -1, 3, 8, MOST}) {
            refused("a seat for sorter " + s, x.seat(s, 0));
            refused("no seat for sorter " + s, x.seat(s, NONE));
        }
    }

    /** Promise 17, and of promises 27, 28, 30 letters that there are not. */
    private static void letters() {
        for (int kind : new int[] {LEAST, -1, 5, MOST}) {
            refused("a letter of kind " + kind, x.post(kind, 0, 1, 1, 1, 1));
        }
        for (int a : new int[] {LEAST, -1, 6, 12, MOST}) {
            refused("a letter from " + a, x.post(0, a, 1, 1, 1, 1));
            refused("a letter to " + a, x.post(0, 1, a, 1, 1, 1));
        }
        refused("a letter to its own town", x.post(0, 1, 1, 1, 1, 1));
        for (int sheets : new int[] {LEAST, -1, 0, 10, MOST}) {
            refused("a letter of sheets " + sheets, x.post(0, 0, 1, sheets, 1, 1));
        }
        for (int weight : new int[] {LEAST, -1, 100, MOST}) {
            refused("a letter of weight " + weight, x.post(0, 0, 1, 1, weight, 1));
        }
        for (int who : new int[] {LEAST, -1, 10, MOST}) {
            refused("a letter by " + who, x.post(0, 0, 1, 1, 1, who));
        }
        for (int l : new int[] {LEAST, -1, x.look(3), 120, MOST}) {
            refused("nobody of letter " + l, x.nobody(l));
            refused("a place of letter " + l, x.place(l, 0, 50));
            refused("letter " + l + " found", x.found(l, 0));
        }
    }

    /** At 2941: run (0, 2) went at 60 of its day, (2, 2) at 50; (1, 2) has not come anywhere. */
    private static void busyRuns() {
        refused("a stop beyond minute 0", x.stop(3, 0, 5, 5, false));
        refused("too late to tell", x.late(0, 2, 9));
        refused("too late to try", x.whatIf(0, 2, 9));
        refused("told of an old run", x.late(1, 0, 0));
        refused("missed already told", x.miss(2, 3, 1));
        refused("the run has come there long ago", x.miss(2, 1, 1));
        refused("not gone yet", x.rob(1, 2));
        refused("at its end long ago", x.rob(0, 1));
        refused("not gone for days", x.rob(0, 6));
        refused("without stops", x.rob(3, 2));
    }

    /** One letter a state, as Land.busy() tells. */
    private static void busyLetters() {
        for (int l = 0; l <= 6; l++) {
            if (l != 4) {
                refused("nobody of a letter that lies neither in a hole nor aboard: " + l, x.nobody(l));
            }
        }
        for (int l : new int[] {0, 1, 2, 3, 4, 7, 8, 9}) {
            refused("a place of a letter that does not lie dead: " + l, x.place(l, 3, 50));
            refused("a letter found that does not lie dead: " + l, x.found(l, 1));
        }
        for (int chance : new int[] {LEAST, -1, 0, 100, MOST}) {
            refused("a place of chance " + chance, x.place(5, 3, chance));
            refused("an old place of chance " + chance, x.place(5, 0, chance));
        }
        for (int town : new int[] {LEAST, -1, 6, 12, MOST}) {
            refused("a place in town " + town, x.place(5, town, 50));
            refused("found in town " + town, x.found(5, town));
        }
        refused("a place in its town TO", x.place(5, 2, 50));
        refused("4 others", x.place(6, 5, 50));
        refused("found at no place of its own", x.found(5, 3));
        refused("found in its town TO", x.found(5, 2));
    }

    private static void busyClocks() {
        refused("it could not show that, whatever it gains", x.seen(0, BEYOND_GAIN));
        refused("nor that", x.seen(0, BEHIND_GAIN));
        refused("another clock could not gain two hours", x.seen(1, Land.BUSY + 120));
        refused("nor lose an hour", x.seen(1, Land.BUSY - 60));
    }

    /** Clock 0 was set at 60, and gains 11 to 14 seconds an hour: 8 to 11 minutes in these 2881. */
    private static final int BEYOND_GAIN = Land.BUSY + 12;
    private static final int BEHIND_GAIN = Land.BUSY + 7;

    /** Promise 10: beyond 10079. */
    private static void tooFar() {
        Land.upTo(x, 9000);
        ahead = Answers.of(x);
        refused("minutes up to 10080", x.minutes(1080));
        refused("minutes up to 12000", x.minutes(3000));
    }

    /** Promises 2 and 5: the 13th town and the 11th train. */
    private static void fullTowns() {
        InlandMails full = Land.of(12);
        for (int t = 0; t < 10; t++) {
            full.train();
        }
        begin(full);
        refused("the 13th town", x.town());
        refused("the 11th train", x.train());
        refused("a road to the 13th town", x.road(0, 12, 5));
        refused("a stop of the 11th train", x.stop(10, 0, 5, 5, false));
        DUE.is("the last town is one", x.road(0, 11, 5), true);
        DUE.is("the last train is one", x.stop(9, 11, 5, 5, false), 0);
        for (int i = 1; i < 8; i++) {
            DUE.is("a stop", x.stop(9, i, 10 * i, 10 * i, false), i);
        }
        ahead = Answers.of(x);
        refused("the 9th stop", x.stop(9, 11, 100, 100, false));
    }

    /** Promise 17: the 121st letter. */
    private static void fullLetters() {
        InlandMails full = Land.young();
        for (int l = 0; l < 120; l++) {
            full.post(2, 0, 1, 1, 1, 1);
        }
        begin(full);
        refused("the 121st letter", x.post(0, 0, 1, 1, 1, 1));
        refused("nobody of it", x.nobody(120));
    }

    /** Promise 31: the 21st robbery. */
    private static void fullRobberies() {
        InlandMails full = Land.busy();
        for (int k = full.robbery(0, 2) + 2; k < 20; k++) {
            DUE.is("a robbery", full.rob(2, 2), k);
        }
        begin(full);
        refused("the 21st robbery", x.rob(0, 2));
        DUE.is("a sorted letter was aboard", x.run(0, 2, 1), 1);
    }

    /** Promise 23: the 9th sorter. */
    private static void fullSorters() {
        InlandMails full = Land.young();
        for (int s = 3; s < 8; s++) {
            DUE.is("a sorter", full.sorter(1, 1), s);
        }
        begin(full);
        refused("the 9th sorter", x.sorter(1, 1));
        refused("its seat", x.seat(8, 0));
    }
}
