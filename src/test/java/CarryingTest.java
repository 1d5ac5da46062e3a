/** Promises 21 to 30 by hand: ordinary inputs, the edges that the document names, wrong inputs. */
public final class CarryingTest {
    private static final Due DUE = new Due("CarryingTest");
    private static final int NONE = InlandMails.NONE;
    private static final int ALL = 4095;

    public static void main(String[] args) {
        lead();
        leadOfManyRows();
        leadsOfAllLetters();
        where();
        sorter();
        seat();
        sorting();
        sortersInTurn();
        sortedAgain();
        carriedOn();
        minuteOrder();
        runsInOrder();
        missedAtSpeed();
        missedForAnother();
        missedForAnotherAmid();
        missedAtTheStart();
        missedTwice();
        run();
        account();
        nobody();
        place();
        order();
        found();
        burnt();
        burntTheNextDay();
        burntByItsAct();
        wholeLand();
        DUE.close();
    }

    private static void due(String call, long got, long want) {
        DUE.is(call, got, want);
    }

    private static void yes(String call, boolean got) {
        DUE.is(call, got, true);
    }

    private static void no(String call, boolean got) {
        DUE.is(call, got, false);
    }

    private static void rows(InlandMails x, int l, int... want) {
        for (int i = 0; i < want.length; i++) {
            due("lead(" + l + ", " + i / 3 + ", " + i % 3 + ")", x.lead(l, i / 3, i % 3), want[i]);
        }
        due("lead(" + l + ") ends", x.lead(l, want.length / 3, 0), NONE);
    }

    /** Promise 21. */
    private static void lead() {
        InlandMails x = Land.of(3);
        Land.train(x, 0, 5, 10, 1, 20, 20);
        Land.train(x, 1, 5, 20, 2, 30, 30);
        Land.sorterIn(x, 0, 1, ALL);
        Land.sorterIn(x, 1, 1, ALL);
        x.minutes(1);
        Land.letter(x, 0, 2);
        rows(x, 0, 1, 0, 0);
        x.minutes(40);
        rows(x, 0, 1, 0, 0, 10, 1, 0, 20, 0, 1, 20, 1, 1, 30, 2, 2);
        x.minutes(1440);
        Land.letter(x, 0, 1);
        x.minutes(1440);
        rows(x, 1, 1481, 0, 0, 2890, 1, 20, 2900, 2, 1);
        due("lead(0, -1, 0)", x.lead(0, -1, 0), NONE);
        due("lead(0, 0, 3)", x.lead(0, 0, 3), NONE);
        due("lead(0, 0, -1)", x.lead(0, 0, -1), NONE);
        due("lead(2, 0, 0)", x.lead(2, 0, 0), NONE);
        due("lead(-1, 0, 0)", x.lead(-1, 0, 0), NONE);
    }

    /** Unsorted, a letter goes to and fro between two towns all week. */
    private static void leadOfManyRows() {
        InlandMails x = Land.of(3);
        Land.train(x, 0, 10, 10, 1, 20, 20, 2, 30, 30);
        Land.train(x, 2, 40, 40, 1, 50, 50, 0, 60, 60);
        Land.letter(x, 0, 1);
        Land.upTo(x, 10079);
        due("given never", x.of(0, 7), 0);
        due("left twice a day", x.of(0, 12), 14);
        for (int k = 0; k < 14; k++) {
            int minute = 1440 * (k / 2) + k % 2 * 30;
            due("aboard at", x.lead(0, 2 * k + 1, 0), minute + 10);
            due("aboard", x.lead(0, 2 * k + 1, 1), 1);
            due("aboard of", x.lead(0, 2 * k + 1, 2), k / 2 * 10 + k % 2);
            due("put down at", x.lead(0, 2 * k + 2, 0), minute + 30);
            due("put down", x.lead(0, 2 * k + 2, 1), 0);
            due("put down in", x.lead(0, 2 * k + 2, 2), 2 - k % 2 * 2);
        }
        due("the lead ends", x.lead(0, 29, 0), NONE);
    }

    /** Never sorted, all letters go with all runs, and are put down where they came from. */
    private static void leadsOfAllLetters() {
        InlandMails x = Land.of(2);
        for (int t = 0; t < 10; t++) {
            Land.train(x, 0, 10 + 100 * t, 10 + 100 * t, 1, 50 + 100 * t, 50 + 100 * t, 0, 90 + 100 * t, 95 + 100 * t);
        }
        for (int l = 0; l < 119; l++) {
            Land.letter(x, 0, 1);
        }
        x.minutes(60);
        Land.letter(x, 0, 1);
        Land.upTo(x, 10079);
        for (int l = 0; l < 120; l++) {
            int first = l == 119 ? 1 : 0;
            due("left", x.of(l, 12), 70 - first);
            due("posted at", x.lead(l, 0, 0), 60 * first);
            for (int k = first; k < 70; k++) {
                int minute = 1440 * (k / 10) + 100 * (k % 10) + 10;
                int i = 2 * (k - first) + 1;
                due("aboard at", x.lead(l, i, 0), minute);
                due("aboard", x.lead(l, i, 1), 1);
                due("of the run", x.lead(l, i, 2), k);
                due("put down at", x.lead(l, i + 1, 0), minute + 80);
                due("put down", x.lead(l, i + 1, 1), 0);
                due("where it came from", x.lead(l, i + 1, 2), 0);
                due("at the end of the minute ahead", x.where(l, minute + 79, 1), k);
                due("at the end of that minute", x.where(l, minute + 80, 0), 0);
            }
            due("the lead ends", x.lead(l, 141 - 2 * first, 0), NONE);
        }
    }

    /** Promise 22. */
    private static void where() {
        InlandMails x = Land.of(3);
        Land.train(x, 0, 5, 10, 1, 20, 20);
        Land.train(x, 1, 5, 20, 2, 30, 30);
        Land.sorterIn(x, 0, 1, ALL);
        Land.sorterIn(x, 1, 1, ALL);
        x.minutes(3);
        Land.letter(x, 0, 2);
        x.minutes(32);
        due("ahead of its posting", x.where(0, 2, 0), NONE);
        due("as it is posted", x.where(0, 3, 0), 0);
        due("place", x.where(0, 3, 1), 0);
        due("a minute ahead", x.where(0, 9, 0), 0);
        due("aboard", x.where(0, 10, 0), 1);
        due("the end of a minute with two changes", x.where(0, 20, 0), 1);
        due("its place", x.where(0, 20, 1), 1);
        due("the run ahead", x.where(0, 19, 1), 0);
        due("still aboard", x.where(0, 29, 0), 1);
        due("given", x.where(0, 30, 0), 2);
        due("given still", x.where(0, 35, 1), 2);
        due("beyond now", x.where(0, 36, 0), NONE);
        due("minute -1", x.where(0, -1, 0), NONE);
        due("what 2", x.where(0, 35, 2), NONE);
        due("what -1", x.where(0, 35, -1), NONE);
        due("no letter", x.where(1, 35, 0), NONE);
        InlandMails y = Land.of(2);
        Land.letter(y, 1, 0);
        due("in minute 0", y.where(0, 0, 0), 0);
        due("its place", y.where(0, 0, 1), 1);
        due("letter -1", x.where(-1, 35, 0), NONE);
    }

    /** Promise 23. */
    private static void sorter() {
        InlandMails x = Land.of(1);
        due("speed 0", x.sorter(0, 1), NONE);
        due("speed 100", x.sorter(100, 1), NONE);
        due("no set", x.sorter(1, -1), NONE);
        due("a 13th town", x.sorter(1, 4096), NONE);
        due("nothing was done", x.look(4), 0);
        for (int s = 0; s < 8; s++) {
            due("sorter()", x.sorter(s == 0 ? 99 : 1, s == 1 ? ALL : 0), s);
        }
        due("the ninth", x.sorter(1, 1), NONE);
        due("sorters", x.look(4), 8);
    }

    /** Promise 24. */
    private static void seat() {
        InlandMails x = Land.of(2);
        Land.train(x, 0, 10, 10, 1, 20, 20);
        x.sorter(1, ALL);
        no("no such sorter", x.seat(1, 0));
        no("sorter -1", x.seat(-1, 0));
        no("no such train", x.seat(0, 1));
        no("train -2", x.seat(0, -2));
        Land.letter(x, 0, 1);
        x.minutes(10);
        due("seated in none at first", x.run(0, 0, 1), 0);
        yes("seat(0, 0)", x.seat(0, 0));
        due("from now on", x.run(0, 0, 1), 0);
        x.minutes(10);
        due("left", x.of(0, 12), 1);
        Land.letter(x, 0, 1);
        x.minutes(1430);
        due("sorted now", x.run(0, 1, 1), 1);
        yes("the same once more", x.seat(0, 0));
        yes("in none", x.seat(0, NONE));
        x.minutes(100);
        Land.letter(x, 0, 1);
        x.minutes(1400);
        due("sorted no more", x.of(2, 12), 1);
    }

    /** Promises 10, 18, 24: by the stop they are for, then by numbers; so many as there is time for. */
    private static void sorting() {
        InlandMails x = Land.of(4);
        Land.train(x, 0, 10, 10, 1, 12, 12, 2, 20, 20, 3, 30, 30);
        Land.sorterIn(x, 0, 2, ALL);
        int[] to = {3, 1, 2, 1, 3, 2};
        for (int b : to) {
            Land.letter(x, 0, b);
        }
        x.minutes(10);
        int[] sorted = {0, 1, 1, 1, 0, 1};
        for (int l = 0; l < 6; l++) {
            due("aboard for stop", x.of(l, 11), to[l]);
            due("sorted " + l, x.of(l, 10), sorted[l]);
        }
        due("raw", x.run(0, 0, 0), 2);
        due("sorted", x.run(0, 0, 1), 4);
        x.minutes(2);
        due("given", x.of(1, 7), 2);
        due("none sorted is left aboard for stop 1", x.run(0, 0, 1), 4);
        due("those for stop 3 are sorted on the next leg", x.of(0, 10), 1);
        x.minutes(18);
        due("all given", x.look(12), 6);
        due("none left", x.run(0, 0, 3), 0);
    }

    /** Each letter to the least sorter that knows the town and has time. */
    private static void sortersInTurn() {
        InlandMails x = Land.of(4);
        Land.train(x, 0, 10, 10, 1, 11, 11, 2, 50, 50, 3, 60, 60);
        Land.train(x, 0, 100, 100, 1, 101, 101);
        Land.sorterIn(x, 0, 1, 2 + 4);
        Land.sorterIn(x, 0, 1, 2);
        Land.sorterIn(x, 0, 1, 4);
        Land.sorterIn(x, 1, 99, ALL);
        Land.letter(x, 0, 2);
        Land.letter(x, 0, 1);
        Land.letter(x, 0, 3);
        Land.letter(x, 0, 2);
        Land.letter(x, 0, 1);
        Land.letter(x, 0, 1);
        x.minutes(10);
        int[] sorted = {1, 1, 0, 0, 1, 0};
        for (int l = 0; l < 6; l++) {
            due("sorted " + l, x.of(l, 10), sorted[l]);
        }
        x.minutes(1);
        due("the third for town 1 stays aboard", x.of(5, 7), 1);
        due("for stop 1 still", x.of(5, 11), 1);
        due("and is sorted on the next leg", x.of(5, 10), 1);
        due("nobody knows town 3", x.of(2, 10), 0);
        x.minutes(39);
        due("put down at the next stop", x.of(5, 7), 0);
        due("in its town", x.of(5, 8), 2);
        due("it was not left", x.of(5, 12), 0);
        x.minutes(10);
        due("the raw one comes to its town", x.of(2, 7), 2);
        due("it was left", x.of(2, 12), 1);
        due("one left by the run", x.run(0, 0, 3), 1);
        Land.letter(x, 0, 1);
        x.minutes(41);
        due("the sorter of the other train", x.of(6, 7), 2);
    }

    /** Raw once more as it goes aboard once more; a train has its sorters in each of its runs. */
    private static void sortedAgain() {
        InlandMails x = Land.of(3);
        Land.train(x, 0, 10, 10, 1, 20, 20);
        Land.train(x, 1, 1500, 1500, 2, 2000, 2000, 0, 2400, 2400);
        Land.sorterIn(x, 0, 9, ALL);
        Land.letter(x, 0, 2);
        x.minutes(20);
        due("put down sorted", x.of(0, 7), 0);
        x.minutes(1480);
        due("aboard", x.of(0, 7), 1);
        due("of run (1, 0)", x.of(0, 8), 1);
        due("raw again", x.of(0, 10), 0);
        Land.sorterIn(x, 1, 1, ALL);
        Land.letter(x, 1, 2);
        x.minutes(1440);
        due("the next run of the train", x.of(1, 8), 11);
        due("sorted in it", x.of(1, 10), 1);
        due("the first was sorted behind its stop, and put down in the capital", x.lead(0, 4, 2), 0);
        due("so it was not left", x.of(0, 12), 0);
    }

    /** What is raw is carried past its stop to the last one. */
    private static void carriedOn() {
        InlandMails x = Land.of(3);
        Land.train(x, 0, 10, 10, 1, 20, 20, 2, 30, 30);
        Land.train(x, 2, 30, 30, 1, 40, 40);
        Land.letter(x, 0, 1);
        x.minutes(20);
        due("not put down", x.of(0, 7), 1);
        due("for stop 1", x.of(0, 11), 1);
        x.minutes(10);
        due("left in town 2, and on", x.of(0, 8), 1);
        due("left once", x.of(0, 12), 1);
        due("by run (0, 0)", x.run(0, 0, 3), 1);
        x.minutes(10);
        due("given as it is left", x.of(0, 7), 2);
        due("left twice", x.of(0, 12), 2);
        rows(x, 0, 0, 0, 0, 10, 1, 0, 30, 0, 2, 30, 1, 1, 40, 2, 1);
    }

    /** In one minute all comings ahead of all goings: the later train brings for the earlier one. */
    private static void minuteOrder() {
        InlandMails x = Land.of(3);
        Land.train(x, 1, 20, 20, 2, 30, 30);
        Land.train(x, 0, 10, 10, 1, 20, 20);
        Land.sorterIn(x, 1, 1, ALL);
        Land.letter(x, 0, 2);
        x.minutes(20);
        due("brought and taken in one minute", x.of(0, 8), 0);
        due("aboard", x.of(0, 7), 1);
        due("raw", x.run(0, 0, 0), 1);
    }

    /** A letter waits for a later run that comes first, and takes no run but its best. */
    private static void runsInOrder() {
        InlandMails x = Land.of(2);
        Land.train(x, 0, 10, 10, 1, 100, 100);
        Land.train(x, 0, 20, 20, 1, 90, 90);
        Land.train(x, 0, 20, 20, 1, 90, 90);
        Land.letter(x, 0, 1);
        x.minutes(10);
        due("it waits", x.of(0, 7), 0);
        x.minutes(10);
        due("the lesser train of like ones", x.of(0, 8), 1);
        Land.letter(x, 0, 1);
        x.minutes(1000);
        yes("late", x.late(1, 1, 11));
        yes("late", x.late(2, 1, 11));
        x.minutes(430);
        due("the first now comes first", x.of(1, 8), 10);
    }

    /** None is put down, nor goes aboard, where a stop is missed; what lies aboard is sorted there. */
    private static void missedAtSpeed() {
        InlandMails x = Land.of(4);
        x.train();
        x.stop(0, 0, 10, 10, false);
        x.stop(0, 1, 20, 20, true);
        x.stop(0, 2, 30, 30, false);
        x.stop(0, 3, 40, 40, false);
        Land.sorterIn(x, 0, 1, 2);
        int on = Land.letter(x, 1, 3);
        int off = Land.letter(x, 0, 1);
        for (int n = 0; n < 10; n++) {
            Land.letter(x, 0, 1);
        }
        yes("miss", x.miss(0, 0, 1));
        due("the way is told as if it were not", x.way(1, 0, 3, 3), 0);
        x.minutes(10);
        due("sorted by then", x.run(0, 0, 1), 10);
        x.minutes(10);
        due("none put down", x.of(off, 7), 1);
        due("none goes aboard", x.of(on, 7), 0);
        due("but sorted", x.run(0, 0, 1), 11);
        x.minutes(10);
        due("put down at the next stop", x.of(off, 8), 2);
        due("in its hole", x.of(off, 7), 0);
        due("not left", x.of(off, 12), 0);
        x.minutes(1430);
        due("the next run takes it", x.of(on, 8), 10);
    }

    /** The best way is told whatever was missed: another run of the same minute takes nothing. */
    private static void missedForAnother() {
        InlandMails x = Land.of(2);
        x.train();
        x.stop(0, 0, 10, 10, true);
        x.stop(0, 1, 20, 20, false);
        Land.train(x, 0, 10, 10, 1, 20, 20);
        Land.train(x, 0, 11, 11, 1, 30, 30);
        Land.letter(x, 0, 1);
        yes("miss", x.miss(0, 0, 0));
        x.minutes(10);
        due("neither", x.of(0, 7), 0);
        x.minutes(1);
        due("a minute later the next one", x.of(0, 8), 2);
        due("aboard", x.of(0, 7), 1);
    }

    /** The same amid both runs. */
    private static void missedForAnotherAmid() {
        InlandMails x = Land.of(4);
        x.train();
        x.stop(0, 2, 5, 5, false);
        x.stop(0, 0, 10, 10, true);
        x.stop(0, 1, 20, 20, false);
        Land.train(x, 3, 5, 5, 2, 7, 7, 0, 10, 10, 1, 30, 30);
        Land.train(x, 0, 11, 11, 1, 40, 40);
        int l = Land.letter(x, 0, 1);
        yes("miss", x.miss(0, 0, 1));
        x.minutes(10);
        due("neither", x.of(l, 7), 0);
        int other = Land.letter(x, 0, 1);
        x.minutes(1);
        due("a minute later the next one", x.of(l, 8), 2);
        due("and for another letter", x.of(other, 8), 2);
    }

    private static void missedAtTheStart() {
        InlandMails x = Land.of(2);
        x.train();
        x.stop(0, 0, 10, 10, true);
        x.stop(0, 1, 20, 20, true);
        Land.letter(x, 0, 1);
        yes("miss", x.miss(0, 0, 0));
        x.minutes(10);
        due("it lies there", x.of(0, 7), 0);
        x.minutes(1440);
        due("the next run takes it", x.of(0, 8), 10);
        x.minutes(10);
        due("the last stop is fast: given", x.of(0, 7), 2);
    }

    /** One run misses two stops, whichever is told first. */
    private static void missedTwice() {
        InlandMails x = Land.of(5);
        x.train();
        x.stop(0, 0, 10, 10, false);
        x.stop(0, 1, 20, 20, true);
        x.stop(0, 2, 30, 30, true);
        x.stop(0, 3, 40, 40, true);
        x.stop(0, 4, 50, 50, true);
        Land.sorterIn(x, 0, 9, ALL);
        Land.letter(x, 0, 1);
        Land.letter(x, 0, 2);
        Land.letter(x, 1, 4);
        Land.letter(x, 2, 4);
        Land.letter(x, 3, 4);
        yes("miss", x.miss(0, 0, 2));
        yes("miss", x.miss(0, 0, 1));
        x.minutes(30);
        due("for the first, aboard yet", x.of(0, 7), 1);
        due("for the second, aboard yet", x.of(1, 7), 1);
        x.minutes(10);
        rows(x, 0, 0, 0, 0, 10, 1, 0, 40, 0, 3);
        rows(x, 1, 0, 0, 0, 10, 1, 0, 40, 0, 3);
        rows(x, 2, 0, 0, 1);
        rows(x, 3, 0, 0, 2);
        rows(x, 4, 0, 0, 3, 40, 1, 0);
    }

    /** Promise 25. */
    private static void run() {
        InlandMails x = Land.of(3);
        Land.train(x, 0, 10, 10, 1, 20, 25, 2, 30, 35);
        Land.sorterIn(x, 0, 1, 2);
        x.train();
        Land.letter(x, 0, 1);
        Land.letter(x, 0, 2);
        yes("late", x.late(0, 1, 7));
        int[][] want = {{0, 0, NONE, 0, 0}, {1, 1, 0, 0, 0}, {1, 0, 1, 0, 0}, {0, 0, 1, 1, 0}, {0, 0, 1, 1, 0}};
        int[] minute = {9, 10, 25, 35, 3000};
        for (int k = 0; k < minute.length; k++) {
            Land.upTo(x, minute[k]);
            for (int what = 0; what < 5; what++) {
                due("at " + minute[k] + " run(0, 0, " + what + ")", x.run(0, 0, what), want[k][what]);
            }
        }
        due("LATE", x.run(0, 1, 4), 7);
        due("another day's", x.run(0, 1, 3), 0);
        due("of a train without stops", x.run(1, 0, 0), 0);
        due("gone from none", x.run(1, 6, 2), NONE);
        due("run(0, 0, 5)", x.run(0, 0, 5), NONE);
        due("run(0, 0, -1)", x.run(0, 0, -1), NONE);
        due("run(2, 0, 0)", x.run(2, 0, 0), NONE);
        due("run(-1, 0, 0)", x.run(-1, 0, 0), NONE);
        due("run(0, 7, 0)", x.run(0, 7, 0), NONE);
        due("run(0, -1, 0)", x.run(0, -1, 0), NONE);
        goneFrom();
    }

    /** Promise 25, what 2: only its last stop counts as one from which a run does not go. */
    private static void goneFrom() {
        InlandMails x = Land.of(3);
        Land.train(x, 0, 0, 0);
        Land.train(x, 1, 0, 5);
        Land.train(x, 0, 0, 0, 1, 10, 20);
        int full = Land.train(x, 0, 10, 10, 1, 20, 20, 0, 30, 30, 1, 40, 40, 2, 50, 50, 1, 60, 60, 0, 70, 70, 1, 80, 80);
        due("of one stop, at its GOES", x.run(0, 0, 2), NONE);
        due("of two, at the first one's GOES", x.run(2, 0, 2), 0);
        yes("late", x.late(full, 0, 3));
        for (int minute : new int[] {1, 12, 13, 22, 23, 62, 63, 72, 73, 82, 83, 93, 500}) {
            Land.upTo(x, minute);
            int stop = minute < 13 ? NONE : Math.min((minute - 13) / 10, 6);
            due("of eight, the last but one is the last, at " + minute, x.run(full, 0, 2), stop);
            due("of two, the first one stays", x.run(2, 0, 2), 0);
            due("of one, never", x.run(0, 0, 2), NONE);
            due("of one that stands, never", x.run(1, 0, 2), NONE);
        }
        Land.upTo(x, 10079);
        for (int d = 0; d < 7; d++) {
            due("of one on day " + d, x.run(0, d, 2), NONE);
            due("of two on day " + d, x.run(2, d, 2), 0);
            due("of eight on day " + d, x.run(full, d, 2), 6);
        }
    }

    /** Promise 26. */
    private static void account() {
        InlandMails x = Land.of(3);
        Land.train(x, 0, 10, 10, 1, 20, 20);
        Land.train(x, 2, 10, 10, 1, 20, 20);
        Land.act(x, 0, "charge sheets; ship 10; sign 10; frank 0;");
        for (int kind = 0; kind < 5; kind++) {
            x.post(kind, 0, 1, kind + 1, 0, 0);
        }
        x.post(0, 2, 1, 7, 0, 0);
        x.post(0, 1, 0, 9, 0, 0);
        due("OUT", x.account(0, 1, 0), 15);
        due("IN", x.account(0, 1, 1), 0);
        due("they differ by", x.account(0, 1, 2), 2);
        due("the letter", x.account(0, 1, 10), 0);
        due("the ship letter", x.account(0, 1, 11), 3);
        due("no other", x.account(0, 1, 12), NONE);
        x.minutes(20);
        x.post(0, 0, 1, 5, 0, 0);
        due("OUT", x.account(0, 1, 0), 20);
        due("IN", x.account(0, 1, 1), 15);
        due("they differ by", x.account(0, 1, 2), 1);
        due("the new one", x.account(0, 1, 10), 7);
        due("none behind it", x.account(0, 1, 11), NONE);
        due("the other way", x.account(1, 0, 0), 9);
        due("from another town", x.account(2, 1, 1), 7);
        due("nothing between", x.account(0, 2, 0), 0);
        due("account(0, 1, 3)", x.account(0, 1, 3), NONE);
        due("account(0, 1, 9)", x.account(0, 1, 9), NONE);
        due("account(0, 1, -1)", x.account(0, 1, -1), NONE);
        due("account(1, 1, 0)", x.account(1, 1, 0), NONE);
        due("account(0, 3, 0)", x.account(0, 3, 0), NONE);
        due("account(-1, 0, 0)", x.account(-1, 0, 0), NONE);
        Land.act(x, 0, "");
        x.post(0, 2, 0, 5, 0, 0);
        due("nothing owed: no difference", x.account(2, 0, 2), 0);
    }

    /** Promise 27. */
    private static void nobody() {
        InlandMails x = Land.of(3);
        Land.train(x, 0, 10, 10, 1, 20, 20);
        Land.sorterIn(x, 0, 9, ALL);
        for (int n = 0; n < 4; n++) {
            Land.letter(x, 0, 1);
        }
        no("no letter", x.nobody(4));
        no("letter -1", x.nobody(-1));
        yes("in a hole", x.nobody(0));
        no("told already", x.nobody(0));
        x.minutes(10);
        yes("aboard", x.nobody(1));
        x.minutes(10);
        due("dead", x.of(0, 7), 3);
        due("in its town", x.of(0, 8), 1);
        rows(x, 1, 0, 0, 0, 10, 1, 0, 20, 3, 1);
        due("given", x.of(2, 7), 2);
        no("dead already", x.nobody(1));
        no("given already", x.nobody(2));
    }

    private static InlandMails withDead(int towns, int letters) {
        InlandMails x = Land.of(towns);
        Land.train(x, 0, 10, 10, 1, 20, 20);
        for (int l = 0; l < letters; l++) {
            Land.letter(x, 0, 1);
            x.nobody(l);
        }
        Land.letter(x, 0, 1);
        return x;
    }

    /** Promise 28. */
    private static void place() {
        InlandMails x = withDead(7, 1);
        no("not dead yet", x.place(0, 2, 50));
        x.minutes(20);
        no("given", x.place(1, 2, 50));
        no("its town TO", x.place(0, 1, 50));
        no("no town", x.place(0, 7, 50));
        no("town -1", x.place(0, -1, 50));
        no("no chance", x.place(0, 2, 0));
        no("chance 100", x.place(0, 2, 100));
        no("no letter", x.place(2, 2, 50));
        no("letter -1", x.place(-1, 2, 50));
        due("none told", x.order(0, 0), 0);
        yes("chance 1", x.place(0, 0, 1));
        yes("chance 99", x.place(0, 2, 99));
        yes("a third", x.place(0, 3, 10));
        yes("a fourth", x.place(0, 4, 10));
        no("4 others", x.place(0, 5, 10));
        yes("of one town the latest", x.place(0, 0, 20));
        due("how many", x.order(0, 0), 4);
        due("its chance", x.order(0, 21), 20);
    }

    private static void orders(InlandMails x, int... want) {
        due("how many", x.order(0, 0), want.length / 2);
        for (int i = 0; i < want.length / 2; i++) {
            due("town " + i, x.order(0, 10 + i), want[2 * i]);
            due("chance " + i, x.order(0, 20 + i), want[2 * i + 1]);
        }
        due("no other town", x.order(0, 10 + want.length / 2), NONE);
        due("no other chance", x.order(0, 20 + want.length / 2), NONE);
    }

    private static void fraction(InlandMails x, long above, long below) {
        due("above", x.order(0, 1), above);
        due("below", x.order(0, 2), below);
    }

    /** Promise 29. */
    private static void order() {
        InlandMails x = withDead(7, 1);
        x.minutes(20);
        orders(x);
        fraction(x, NONE, NONE);
        x.place(0, 4, 30);
        orders(x, 4, 30);
        fraction(x, 3, 10);
        x.place(0, 2, 30);
        orders(x, 2, 30, 4, 30);
        fraction(x, 51, 100);
        x.place(0, 5, 31);
        orders(x, 5, 31, 2, 30, 4, 30);
        fraction(x, 6619, 10000);
        x.place(0, 0, 1);
        orders(x, 5, 31, 2, 30, 4, 30, 0, 1);
        fraction(x, 665281, 1000000);
        x.place(0, 0, 99);
        orders(x, 0, 99, 5, 31, 2, 30, 4, 30);
        fraction(x, 996619, 1000000);
        x.place(0, 0, 30);
        orders(x, 5, 31, 0, 30, 2, 30, 4, 30);
        x.place(0, 5, 50);
        x.place(0, 2, 50);
        orders(x, 2, 50, 5, 50, 0, 30, 4, 30);
        fraction(x, 351, 400);
        x.place(0, 0, 3);
        x.place(0, 4, 7);
        x.place(0, 2, 11);
        x.place(0, 5, 17);
        orders(x, 5, 17, 2, 11, 4, 7, 0, 3);
        fraction(x, 33361873, 100000000);
        due("order(0, 3)", x.order(0, 3), NONE);
        due("order(0, 9)", x.order(0, 9), NONE);
        due("order(0, 19)", x.order(0, 19), NONE);
        due("order(0, -1)", x.order(0, -1), NONE);
        due("of a letter given", x.order(1, 0), 0);
        due("order(2, 0)", x.order(2, 0), NONE);
        due("order(-1, 0)", x.order(-1, 0), NONE);
    }

    /** Promise 30. */
    private static void found() {
        InlandMails x = withDead(4, 2);
        no("not dead yet", x.found(0, 2));
        x.minutes(20);
        no("no place", x.found(0, 2));
        x.place(0, 2, 5);
        x.place(1, 3, 5);
        no("another's place", x.found(0, 3));
        no("its town TO", x.found(0, 1));
        no("no town", x.found(0, -1));
        no("no letter", x.found(3, 2));
        no("letter -1", x.found(-1, 2));
        x.minutes(1);
        yes("found", x.found(0, 2));
        no("found already", x.found(0, 2));
        no("no more dead", x.place(0, 3, 5));
        rows(x, 0, 0, 0, 0, 10, 1, 0, 20, 3, 1, 21, 5, 2);
        due("found ones", x.look(15), 1);
        x.minutes(3000);
        x.minutes(1400);
        due("not burnt", x.of(0, 7), 5);
        due("burnt after 3 days", x.of(1, 7), 6);
        no("burnt: found no more", x.found(1, 3));
    }

    /** Promises 10, 30: burnt as a day begins, ahead of all else. */
    private static void burnt() {
        InlandMails x = Land.of(2);
        Land.train(x, 0, 0, 0, 1, 1440, 1440);
        Land.act(x, 0, "dead 1;");
        x.minutes(1439);
        Land.letter(x, 0, 1);
        x.nobody(0);
        x.minutes(1441);
        due("dead in the first minute of day 2", x.of(0, 7), 3);
        x.minutes(1439);
        due("that day does not count", x.of(0, 7), 3);
        x.minutes(1);
        due("burnt as day 3 begins", x.of(0, 7), 6);
        rows(x, 0, 1439, 0, 0, 1440, 1, 10, 2880, 3, 1, 4320, 6, 1);
        due("burnt ones", x.look(16), 1);
    }

    /** What dies in the first minute of a day is not burnt by that day, though dead be 0. */
    private static void burntTheNextDay() {
        InlandMails x = Land.of(2);
        Land.train(x, 0, 0, 0, 1, 1440, 1440);
        Land.act(x, 0, "dead 0;");
        x.minutes(1439);
        Land.letter(x, 0, 1);
        x.nobody(0);
        Land.letter(x, 0, 1);
        x.minutes(1441);
        due("dead", x.of(0, 7), 3);
        x.minutes(1440);
        due("burnt", x.of(0, 7), 6);
        due("at", x.lead(0, 3, 0), 4320);
    }

    /** By the act by which it was posted; without one after 3 days; dead 0 as the next day begins. */
    private static void burntByItsAct() {
        InlandMails x = Land.of(2);
        Land.train(x, 0, 100, 100, 1, 200, 200);
        Land.letter(x, 0, 1);
        Land.act(x, 0, "dead 2;");
        Land.letter(x, 0, 1);
        Land.act(x, 0, "dead 0;");
        Land.letter(x, 0, 1);
        Land.act(x, 0, "dead 9999;");
        Land.letter(x, 0, 1);
        for (int l = 0; l < 4; l++) {
            x.nobody(l);
        }
        Land.act(x, 0, "dead 1;");
        Land.letter(x, 1, 0);
        int[] burnt = {4320, 2880, 1440};
        for (int l = 2; l >= 0; l--) {
            Land.upTo(x, burnt[l] - 1);
            due("dead " + l, x.of(l, 7), 3);
            x.minutes(1);
            due("burnt " + l, x.of(l, 7), 6);
            due("at", x.lead(l, 3, 0), burnt[l]);
        }
        Land.upTo(x, 10079);
        due("dead all week", x.of(3, 7), 3);
    }

    /** As many of all as there can be; each letter goes a way of its own train, by its own sorter. */
    private static void wholeLand() {
        InlandMails x = Land.of(12);
        for (int t = 0; t < 10; t++) {
            int[] told = new int[24];
            for (int i = 0; i < 8; i++) {
                told[3 * i] = i % 2 == 0 ? t : t + 1;
                told[3 * i + 1] = 100 * t + 10 * i + 5;
                told[3 * i + 2] = told[3 * i + 1];
            }
            Land.train(x, told);
        }
        for (int s = 0; s < 8; s++) {
            Land.sorterIn(x, s + 1, 99, ALL);
        }
        for (int l = 0; l < 120; l++) {
            Land.letter(x, l % 10, l % 10 + 1);
        }
        Land.upTo(x, 1004);
        for (int l = 0; l < 120; l++) {
            int t = l % 10;
            boolean raw = t == 0 || t == 9;
            due("aboard of", x.lead(l, 1, 2), t);
            due("aboard at", x.lead(l, 1, 0), 100 * t + 5);
            due("given at", x.lead(l, 2, 0), 100 * t + (raw ? 75 : 15));
            due("left", x.of(l, 12), raw ? 1 : 0);
        }
        due("given", x.look(12), 120);
        for (int t = 0; t < 10; t++) {
            due("left by run (" + t + ", 0)", x.run(t, 0, 3), t == 0 || t == 9 ? 12 : 0);
        }
    }
}
