/**
 * Section 3, and promises 23 to 25: each sentence that names an edge, with what lies on it and what
 * lies just beyond. The sentence stands above its test.
 */
public final class CarryEdgesTest {
    private static final Due DUE = new Due("CarryEdgesTest");
    private static final int NONE = InlandMails.NONE;
    private static final int LEAST = Integer.MIN_VALUE;
    private static final int MOST = Integer.MAX_VALUE;
    private static final int ALL = 4095;

    public static void main(String[] args) {
        comingsAheadOfGoings();
        goesWithItsBestAlone();
        notFromTheLast();
        rawAgain();
        speedTimesMinutes();
        timeEachLeg();
        noTimeOverForTheNext();
        byStopsThenByNumbers();
        behindThoseWhoGoAboard();
        leastSorterWithTime();
        knowsTheTownOfThatStop();
        sortersOfThisTrain();
        forItOrForOneAhead();
        rawAtTheLast();
        givenThoughLeft();
        fastIsStoppedAt();
        noneAtAMissedOne();
        sortedWhileMissed();
        fullHoles();
        sorterEdges();
        eightSorters();
        seatEdges();
        fromNowOn();
        whatOfRuns();
        lastStopGoneFrom();
        leftByRuns();
        DUE.close();
    }

    private static void due(String call, long got, long want) {
        DUE.is(call, got, want);
    }

    private static void yes(String call, boolean got) {
        DUE.is(call, got, true);
    }

    private static void no(String call, boolean got) {
        DUE.is(call, got, false);
    }

    private static int post(InlandMails x, int from, int to, int many) {
        int l = NONE;
        for (int n = 0; n < many; n++) {
            l = Land.letter(x, from, to);
        }
        return l;
    }

    private static int sorted(InlandMails x, int first, int behind) {
        int n = 0;
        for (int l = first; l < behind; l++) {
            n += x.of(l, 10);
        }
        return n;
    }

    /** "In one MINUTE all COMINGS ahead of all GOINGS": at its edge, a minute less, a minute more. */
    private static void comingsAheadOfGoings() {
        for (int goes = 49; goes <= 51; goes++) {
            InlandMails x = Land.of(3);
            Land.train(x, 1, goes, goes, 2, 90, 90);
            Land.train(x, 0, 10, 10, 1, 50, 50);
            int l = Land.letter(x, 0, 2);
            Land.upTo(x, 51);
            due("brought at 50, taken at " + goes, x.of(l, 7), goes >= 50 ? 1 : 0);
            due("its rows", x.lead(l, 3, 0), goes >= 50 ? goes : NONE);
        }
    }

    /** "For which the BEST WAY from there and then begins with that RUN at this STOP." */
    private static void goesWithItsBestAlone() {
        InlandMails x = Land.of(4);
        Land.train(x, 0, 10, 10, 1, 100, 100);
        Land.train(x, 0, 20, 20, 1, 100, 100);
        Land.train(x, 0, 30, 30, 1, 99, 99, 2, 150, 150);
        int l = post(x, 0, 1, 1);
        int m = post(x, 0, 3, 1);
        Land.upTo(x, 29);
        due("none goes with what comes later", x.look(10), 2);
        x.minutes(1);
        due("it goes with what comes first", x.of(l, 8), 2);
        due("without a way none goes", x.of(m, 7), 0);
        due("aboard", x.look(11), 1);
        Land.upTo(x, 10079);
        due("without a way all week", x.of(m, 8), 0);
    }

    /** "As a RUN GOES from a STOP (not its last)." */
    private static void notFromTheLast() {
        InlandMails x = Land.of(3);
        Land.train(x, 0, 10, 10, 1, 20, 30);
        Land.train(x, 1, 40, 40, 2, 50, 50);
        int l = Land.letter(x, 1, 2);
        Land.upTo(x, 30);
        due("none goes aboard at the last", x.of(l, 7), 0);
        due("gone from the first", x.run(0, 0, 2), 0);
        Land.upTo(x, 40);
        due("but with the other", x.of(l, 8), 1);
    }

    /** "It is raw": each time it goes aboard. */
    private static void rawAgain() {
        InlandMails x = Land.of(3);
        Land.train(x, 0, 10, 10, 1, 20, 20);
        Land.train(x, 1, 20, 20, 2, 30, 30);
        Land.sorterIn(x, 0, 9, ALL);
        int l = Land.letter(x, 0, 2);
        Land.upTo(x, 19);
        due("sorted", x.of(l, 10), 1);
        x.minutes(1);
        due("aboard the next", x.of(l, 8), 1);
        due("raw", x.of(l, 10), 0);
        x.minutes(10);
        due("so it is left", x.of(l, 12), 1);
    }

    /** "Each SORTER ... does SPEED (1 .. 99) LETTERS a minute till the next COMES." */
    private static void speedTimesMinutes() {
        int[][] told = {{1, 1, 1}, {1, 5, 5}, {5, 1, 5}, {99, 1, 99}, {33, 3, 99}, {40, 3, 120}, {1, 119, 119},
            {99, 2390, 120}, {2, 59, 118}};
        for (int[] t : told) {
            InlandMails x = Land.of(3);
            Land.train(x, 0, 0, 1, 1, 1 + t[1], 1 + t[1], 2, 2400, 2400);
            Land.sorterIn(x, 0, t[0], 2);
            post(x, 0, 1, 120);
            Land.upTo(x, 1);
            due("speed " + t[0] + ", minutes " + t[1], x.run(0, 0, 1), t[2]);
            due("the others are raw", x.run(0, 0, 0), 120 - t[2]);
            due("the last that is sorted", x.of(t[2] - 1, 10), 1);
            due("the first that is not", x.of(t[2], 10), t[2] == 120 ? NONE : 0);
        }
    }

    /** The same on each leg anew: from this GOES to the next COMES, not to the next GOES. */
    private static void timeEachLeg() {
        InlandMails x = Land.of(4);
        Land.train(x, 0, 5, 10, 1, 12, 30, 2, 33, 40, 3, 50, 50);
        Land.sorterIn(x, 0, 2, 8);
        post(x, 0, 3, 60);
        Land.upTo(x, 10);
        due("2 minutes", x.run(0, 0, 1), 4);
        Land.upTo(x, 29);
        due("none while it stands", x.run(0, 0, 1), 4);
        Land.upTo(x, 30);
        due("3 minutes", x.run(0, 0, 1), 10);
        Land.upTo(x, 40);
        due("10 minutes", x.run(0, 0, 1), 30);
        Land.upTo(x, 50);
        due("left", x.run(0, 0, 3), 30);
    }

    /** What time was over on one leg, or in one run, does not help on another. */
    private static void noTimeOverForTheNext() {
        InlandMails x = Land.of(3);
        Land.train(x, 0, 10, 10, 1, 100, 100, 2, 101, 101);
        Land.sorterIn(x, 0, 1, ALL);
        post(x, 0, 2, 1);
        post(x, 1, 2, 5);
        Land.upTo(x, 10);
        due("one of 90", x.run(0, 0, 1), 1);
        Land.upTo(x, 100);
        due("one more on the next leg", x.run(0, 0, 1), 2);
        due("the least number", x.of(1, 10), 1);
        due("the next is raw", x.of(2, 10), 0);
    }

    /** "Raw LETTERS aboard, by the STOP they are for, then by numbers." */
    private static void byStopsThenByNumbers() {
        for (int time = 0; time <= 6; time++) {
            InlandMails x = Land.of(4);
            Land.train(x, 0, 10, 10, 1, 10 + Math.max(time, 1), 10 + Math.max(time, 1), 2, 50, 50, 3, 60, 60);
            if (time > 0) {
                Land.sorterIn(x, 0, 1, ALL);
            }
            int[] to = {3, 2, 1, 3, 2, 1};
            for (int b : to) {
                Land.letter(x, 0, b);
            }
            Land.upTo(x, 10);
            int[] turn = {5, 3, 1, 6, 4, 2};
            for (int l = 0; l < 6; l++) {
                due("time for " + time + ", letter " + l, x.of(l, 10), turn[l] <= time ? 1 : 0);
            }
        }
    }

    /** "SORTING is reckoned as a RUN GOES (behind those who go aboard)." */
    private static void behindThoseWhoGoAboard() {
        InlandMails x = Land.of(3);
        Land.train(x, 0, 10, 10, 1, 20, 20, 2, 30, 30);
        int early = Land.letter(x, 0, 2);
        Land.upTo(x, 10);
        int late = Land.letter(x, 1, 2);
        Land.sorterIn(x, 0, 1, ALL);
        due("who sits there only now has sorted none", x.of(early, 10), 0);
        Land.upTo(x, 19);
        due("till it goes again", x.of(early, 10), 0);
        x.minutes(1);
        due("then it sorts", x.of(early, 10), 1);
        due("and who came aboard there", x.of(late, 10), 1);
    }

    /** "Each go to the least SORTER of this TRAIN that knows the TOWN ... and has time left." */
    private static void leastSorterWithTime() {
        InlandMails x = Land.of(4);
        Land.train(x, 0, 10, 10, 1, 11, 11, 2, 12, 12, 3, 60, 60);
        Land.sorterIn(x, 0, 2, 2 + 4);
        Land.sorterIn(x, 0, 1, 2);
        Land.sorterIn(x, 0, 1, 2 + 4 + 8);
        post(x, 0, 1, 5);
        post(x, 0, 2, 2);
        post(x, 0, 3, 1);
        Land.upTo(x, 10);
        due("for town 1 two by the least, one each by the others", sorted(x, 0, 4), 4);
        due("no time left for the fifth", x.of(4, 10), 0);
        due("nor for town 2", sorted(x, 5, 7), 0);
        due("nor for town 3", x.of(7, 10), 0);
        x.minutes(1);
        due("on the next leg the fifth first, though its stop is past", x.of(4, 10), 1);
        due("then one for town 2 by the least", x.of(5, 10), 1);
        due("one by the third, as the second does not know it", x.of(6, 10), 1);
        due("none has time and knows town 3", x.of(7, 10), 0);
    }

    /** "That knows the TOWN of that STOP": not the TOWN TO. */
    private static void knowsTheTownOfThatStop() {
        for (int knows = 0; knows <= 8; knows++) {
            InlandMails x = Land.of(3);
            Land.train(x, 0, 10, 10, 1, 20, 20, 0, 60, 60);
            Land.train(x, 1, 30, 30, 2, 40, 40);
            Land.sorterIn(x, 0, 9, knows);
            int l = Land.letter(x, 0, 2);
            Land.upTo(x, 10);
            due("knows " + knows, x.of(l, 10), (knows & 2) == 0 ? 0 : 1);
            due("for stop 1, in town 1", x.of(l, 11), 1);
        }
        InlandMails x = Land.of(12);
        Land.train(x, 0, 10, 10, 11, 20, 20);
        Land.sorterIn(x, 0, 9, 1 << 11);
        Land.letter(x, 0, 11);
        Land.upTo(x, 10);
        due("the last town", x.of(0, 10), 1);
    }

    /** "Each SORTER that sits in the TRAIN": in each of its runs, and in no other train's. */
    private static void sortersOfThisTrain() {
        InlandMails x = Land.of(2);
        Land.train(x, 0, 10, 10, 1, 2000, 2000);
        Land.train(x, 1, 10, 10, 0, 2000, 2000);
        Land.sorterIn(x, 0, 1, ALL);
        Land.letter(x, 0, 1);
        Land.letter(x, 1, 0);
        Land.upTo(x, 1440);
        Land.letter(x, 0, 1);
        Land.letter(x, 1, 0);
        x.minutes(10);
        due("run (0, 0)", x.run(0, 0, 1), 1);
        due("run (0, 1), while the other goes on", x.run(0, 1, 1), 1);
        due("run (1, 0)", x.run(1, 0, 1), 0);
        due("run (1, 1)", x.run(1, 1, 1), 0);
    }

    /** "SORTED LETTERS that are for it, or for one ahead of it, are put down." */
    private static void forItOrForOneAhead() {
        InlandMails x = Land.of(5);
        Land.train(x, 0, 10, 10, 1, 11, 11, 2, 12, 12, 3, 13, 13, 4, 20, 20);
        Land.sorterIn(x, 0, 1, ALL);
        int[] to = {1, 1, 2, 4};
        for (int b : to) {
            Land.letter(x, 0, b);
        }
        Land.upTo(x, 11);
        due("for stop 1", x.of(0, 7), 2);
        due("raw as it came there", x.of(1, 7), 1);
        Land.upTo(x, 12);
        due("put down at stop 2", x.of(1, 8), 2);
        due("in its hole", x.of(1, 7), 0);
        due("for stop 2, raw as it came there", x.of(2, 7), 1);
        Land.upTo(x, 13);
        due("put down at stop 3", x.of(2, 8), 3);
        due("for stop 4", x.of(3, 7), 1);
        due("sorted by now", x.of(3, 10), 1);
        Land.upTo(x, 20);
        due("given", x.of(3, 7), 2);
        due("none was left", x.run(0, 0, 3), 0);
    }

    /** "At its last STOP raw ones, too (they are LEFT)." */
    private static void rawAtTheLast() {
        InlandMails x = Land.of(4);
        Land.train(x, 0, 10, 10, 1, 20, 20, 2, 30, 30);
        Land.sorterIn(x, 0, 1, 2);
        Land.letter(x, 0, 1);
        Land.letter(x, 0, 2);
        x.seat(0, NONE);
        Land.letter(x, 0, 1);
        Land.upTo(x, 29);
        due("all raw, all aboard", x.run(0, 0, 0), 3);
        x.minutes(1);
        due("none aboard", x.run(0, 0, 0), 0);
        due("three were left", x.run(0, 0, 3), 3);
        for (int l = 0; l < 3; l++) {
            due("left", x.of(l, 12), 1);
            due("in the last town", x.of(l, 8), 2);
        }
        due("one is given there", x.look(12), 1);
        due("two lie there", x.look(10), 2);
    }

    /** "Put down in its TOWN TO a LETTER is GIVEN": wherever the STOP was that it was for. */
    private static void givenThoughLeft() {
        InlandMails x = Land.of(3);
        Land.train(x, 0, 10, 10, 1, 20, 20, 2, 30, 30, 1, 40, 40);
        int l = Land.letter(x, 0, 1);
        Land.upTo(x, 10);
        due("for its first stop there", x.of(l, 11), 1);
        Land.upTo(x, 39);
        due("carried on", x.of(l, 7), 1);
        x.minutes(1);
        due("given at its second stop there", x.of(l, 7), 2);
        due("though left", x.of(l, 12), 1);
    }

    /** A FAST STOP that is not told as MISSED is one as any. */
    private static void fastIsStoppedAt() {
        InlandMails x = Land.of(4);
        x.train();
        x.stop(0, 0, 10, 10, true);
        x.stop(0, 1, 20, 20, true);
        x.stop(0, 2, 30, 30, true);
        Land.sorterIn(x, 0, 1, ALL);
        int off = Land.letter(x, 0, 1);
        int on = Land.letter(x, 1, 2);
        Land.upTo(x, 20);
        due("put down there", x.of(off, 7), 2);
        due("aboard there", x.of(on, 7), 1);
        Land.upTo(x, 30);
        due("put down at the last", x.of(on, 7), 2);
    }

    /** "At a FAST STOP that is told as MISSED by that RUN none is put down, nor goes aboard." */
    private static void noneAtAMissedOne() {
        for (int day = 0; day < 2; day++) {
            InlandMails x = Land.of(4);
            x.train();
            x.stop(0, 0, 10, 10, false);
            x.stop(0, 1, 20, 20, true);
            x.stop(0, 2, 30, 30, false);
            Land.sorterIn(x, 0, 9, ALL);
            int off = Land.letter(x, 0, 1);
            int on = Land.letter(x, 1, 2);
            yes("miss", x.miss(0, day, 1));
            Land.upTo(x, 20);
            due("put down, unless missed today", x.of(off, 7), day == 0 ? 1 : 2);
            due("aboard, unless missed today", x.of(on, 7), day == 0 ? 0 : 1);
            Land.upTo(x, 30);
            due("carried on to the next", x.of(off, 8), day == 0 ? 2 : 1);
            Land.upTo(x, 1470);
            due("the next day's run takes it", x.of(on, 7), 2);
        }
    }

    /** "(What lies aboard is sorted all the same.)" */
    private static void sortedWhileMissed() {
        InlandMails x = Land.of(3);
        x.train();
        x.stop(0, 0, 10, 10, false);
        x.stop(0, 1, 11, 11, true);
        x.stop(0, 2, 20, 20, false);
        Land.sorterIn(x, 0, 1, 4);
        post(x, 0, 2, 5);
        yes("miss", x.miss(0, 0, 1));
        Land.upTo(x, 10);
        due("one by one minute", x.run(0, 0, 1), 1);
        x.minutes(1);
        due("all by nine more", x.run(0, 0, 1), 5);
        due("gone from it", x.run(0, 0, 2), 1);
    }

    /** Full: as many letters as may be, in one hole, aboard one run. */
    private static void fullHoles() {
        InlandMails x = Land.of(3);
        Land.train(x, 0, 10, 10, 1, 12, 12, 2, 20, 20);
        Land.sorterIn(x, 0, 30, ALL);
        post(x, 0, 1, 120);
        due("in the hole", x.look(10), 120);
        Land.upTo(x, 10);
        due("aboard", x.look(11), 120);
        due("sorted", x.run(0, 0, 1), 60);
        Land.upTo(x, 12);
        due("given", x.look(12), 60);
        due("sorted", x.run(0, 0, 1), 60);
        Land.upTo(x, 20);
        due("carried on", x.look(10), 60);
        due("none was left", x.run(0, 0, 3), 0);
        due("the last lies in town 2", x.of(119, 8), 2);
    }

    /** Promise 23: "A SORTER of a SPEED that knows TOWNS (a set), seated in no TRAIN." */
    private static void sorterEdges() {
        InlandMails x = Land.of(2);
        for (int speed : new int[] {LEAST, -1, 0, 100, 101, MOST}) {
            due("speed " + speed, x.sorter(speed, 1), NONE);
        }
        for (int knows : new int[] {LEAST, -1, 4096, 4097, 65536, MOST}) {
            due("knows " + knows, x.sorter(1, knows), NONE);
        }
        due("none is there", x.look(4), 0);
        due("speed 1, who knows nothing", x.sorter(1, 0), 0);
        due("speed 99, who knows all", x.sorter(99, ALL), 1);
        due("two are there", x.look(4), 2);
        Land.train(x, 0, 10, 10, 1, 20, 20);
        Land.letter(x, 0, 1);
        Land.upTo(x, 10);
        due("seated in no TRAIN", x.run(0, 0, 1), 0);
    }

    /** Promise 23: "or there are 8." */
    private static void eightSorters() {
        InlandMails x = Land.of(2);
        Land.train(x, 0, 10, 10, 1, 11, 11);
        for (int s = 0; s < 8; s++) {
            no("none such yet", x.seat(s, 0));
            due("sorter", x.sorter(1 + s, ALL), s);
            yes("now", x.seat(s, 0));
        }
        due("the ninth", x.sorter(1, ALL), NONE);
        no("is none", x.seat(8, 0));
        post(x, 0, 1, 40);
        Land.upTo(x, 10);
        due("all eight sort", x.run(0, 0, 1), 36);
    }

    /** Promise 24: "false, and nothing is done, if one can't be." */
    private static void seatEdges() {
        InlandMails x = Land.of(2);
        x.sorter(1, ALL);
        yes("without trains: in none", x.seat(0, NONE));
        no("without trains", x.seat(0, 0));
        for (int t = 0; t < 10; t++) {
            due("train", x.train(), t);
            yes("in it", x.seat(0, t));
            no("in the next, which is none", x.seat(0, t + 1));
        }
        for (int t : new int[] {LEAST, -2, 10, MOST}) {
            no("in train " + t, x.seat(0, t));
        }
        for (int s : new int[] {LEAST, -1, 1, 8, MOST}) {
            no("sorter " + s, x.seat(s, 0));
            no("sorter " + s + " in none", x.seat(s, NONE));
        }
    }

    /** Promise 24: "Sits in TRAIN t ... from now on." */
    private static void fromNowOn() {
        InlandMails x = Land.of(3);
        Land.train(x, 0, 10, 10, 1, 20, 20, 2, 30, 30);
        Land.sorterIn(x, 0, 1, ALL);
        int l = Land.letter(x, 0, 2);
        int m = Land.letter(x, 1, 2);
        Land.upTo(x, 10);
        yes("in none", x.seat(0, NONE));
        due("sorted stays sorted", x.of(l, 10), 1);
        Land.upTo(x, 20);
        due("who comes aboard now is not", x.of(m, 10), 0);
        yes("back, too late for this leg", x.seat(0, 0));
        due("still not", x.of(m, 10), 0);
        no("in no train that there is", x.seat(0, 1));
        Land.upTo(x, 30);
        due("left", x.of(m, 12), 1);
        due("not left", x.of(l, 12), 0);
    }

    /** Promise 25: "NONE if there is none such, or another what." */
    private static void whatOfRuns() {
        InlandMails x = Land.busy();
        int[] want = {1, 1, 0, 0, 0};
        for (int what = 0; what < 5; what++) {
            due("run(0, 2, " + what + ")", x.run(0, 2, what), want[what]);
            due("of a train without stops", x.run(3, 2, what), what == 2 ? NONE : 0);
            for (int t : new int[] {LEAST, -1, 4, 10, MOST}) {
                due("of train " + t, x.run(t, 2, what), NONE);
            }
            for (int d : new int[] {LEAST, -1, 7, MOST}) {
                due("on day " + d, x.run(0, d, what), NONE);
            }
        }
        for (int what : new int[] {LEAST, -1, 5, 10, MOST}) {
            due("another what", x.run(0, 2, what), NONE);
        }
    }

    /** Promise 25: "2 the last STOP from which it has gone (NONE)": as it GOES, LATE as it is. */
    private static void lastStopGoneFrom() {
        InlandMails x = Land.of(2);
        Land.train(x, 0, 5, 10, 1, 20, 25, 0, 30, 35);
        yes("late", x.late(0, 1, 300));
        int[] minutes = {0, 9, 10, 24, 25, 30, 35, 36, 1440};
        int[] gone = {NONE, NONE, 0, 0, 1, 1, 1, 1, 1};
        for (int k = 0; k < minutes.length; k++) {
            Land.upTo(x, minutes[k]);
            due("at " + minutes[k], x.run(0, 0, 2), gone[k]);
            due("the next day's", x.run(0, 1, 2), NONE);
        }
        for (int k = 0; k < 8; k++) {
            Land.upTo(x, 1740 + minutes[k]);
            due("late, at " + x.look(0), x.run(0, 1, 2), gone[k]);
        }
    }

    /** Promise 25: "3 how many were LEFT by it"; promise 18: "12 how often it was LEFT." */
    private static void leftByRuns() {
        InlandMails x = Land.of(3);
        Land.train(x, 0, 10, 10, 1, 20, 20, 2, 30, 30);
        Land.train(x, 2, 40, 40, 1, 50, 50, 0, 60, 60);
        int l = Land.letter(x, 0, 1);
        for (int d = 0; d < 7; d++) {
            Land.upTo(x, 1440 * d + 29);
            due("not yet", x.run(0, d, 3), 0);
            x.minutes(1);
            due("left by run (0, " + d + ")", x.run(0, d, 3), 1);
            due("so often", x.of(l, 12), 2 * d + 1);
            Land.upTo(x, 1440 * d + 60);
            due("left by run (1, " + d + ")", x.run(1, d, 3), 1);
            due("so often", x.of(l, 12), 2 * d + 2);
        }
    }
}
