/**
 * Promises 17, 18, 20 to 22 and 26 to 30: each sentence that names an edge, with what lies on it and
 * what lies just beyond. The sentence stands above its test.
 */
public final class LetterEdgesTest {
    private static final Due DUE = new Due("LetterEdgesTest");
    private static final int NONE = InlandMails.NONE;
    private static final int LEAST = Integer.MIN_VALUE;
    private static final int MOST = Integer.MAX_VALUE;
    private static final int ALL = 4095;

    public static void main(String[] args) {
        postedEdges();
        postedNone();
        hundredAndTwenty();
        crossEdges();
        crossByEachTown();
        whatOfLetters();
        ofStates();
        waysOfNone();
        wayFromNow();
        goesNotAheadOfThen();
        goesOnNotAhead();
        leftAtALaterStop();
        comesFirst();
        fewestRuns();
        leastTrainThenDay();
        earliestStops();
        whateverWasMissed();
        rowsOfLead();
        oneForEachChange();
        whereAtTheEnd();
        whereOfNone();
        accountOfNone();
        accountDiffers();
        nobodyTillGiven();
        placesOfDead();
        fourPlaces();
        placesButTo();
        orderOfPlaces();
        orderAsToldAnew();
        lowestTerms();
        orderOfNone();
        foundAtItsOwn();
        burntAfterDays();
        burntAheadOfAllElse();
        DUE.close();
    }

    private static void due(String call, long got, long want) {
        DUE.is(call, got, want);
    }

    private static void yes(String call, boolean got) {
        DUE.is(call, got, true);
    }

    private static void no(String call, boolean got) {
        DUE.is(call, got, false);
    }

    private static void rows(InlandMails x, int l, int... want) {
        for (int i = 0; i < want.length; i++) {
            due("lead(" + l + ", " + i / 3 + ", " + i % 3 + ")", x.lead(l, i / 3, i % 3), want[i]);
        }
        for (int what = 0; what < 3; what++) {
            due("lead(" + l + ") ends", x.lead(l, want.length / 3, what), NONE);
        }
    }

    private static void way(InlandMails x, int a, int minute, int b, int... want) {
        for (int what = 0; what < 6; what++) {
            String call = "way(" + a + ", " + minute + ", " + b + ", " + what + ")";
            due(call, x.way(a, minute, b, what), want.length == 6 ? want[what] : NONE);
        }
    }

    /** "A KIND, FROM, TO ..., SHEETS 1 .. 9, WEIGHT 0 .. 99, WHO (0 .. 9)." */
    private static void postedEdges() {
        InlandMails x = Land.of(12);
        int[][] good = {{0, 0, 11, 1, 0, 0}, {4, 11, 0, 9, 99, 9}, {1, 10, 11, 2, 1, 1}, {3, 1, 0, 8, 98, 8}};
        for (int l = 0; l < good.length; l++) {
            int[] g = good[l];
            due("post", x.post(g[0], g[1], g[2], g[3], g[4], g[5]), l);
            for (int what = 0; what < 6; what++) {
                due("of(" + l + ", " + what + ")", x.of(l, what), g[what]);
            }
        }
    }

    /** Promise 17: "NONE, and nothing is done, if one can't be." */
    private static void postedNone() {
        InlandMails x = Land.of(3);
        int[] good = {0, 0, 1, 1, 0, 0};
        int[][] wrong = {{LEAST, -1, 5, 6, MOST}, {LEAST, -1, 3, 12, 1, MOST}, {LEAST, -1, 3, 12, 0, MOST},
            {LEAST, -1, 0, 10, MOST}, {LEAST, -1, 100, MOST}, {LEAST, -1, 10, MOST}};
        for (int k = 0; k < 6; k++) {
            for (int bad : wrong[k]) {
                int[] g = good.clone();
                g[k] = bad;
                due("argument " + k + " being " + bad, x.post(g[0], g[1], g[2], g[3], g[4], g[5]), NONE);
                due("none is posted", x.look(3), 0);
            }
        }
        due("the good one", x.post(0, 0, 1, 1, 0, 0), 0);
    }

    /** "LETTERS 0 .. 119"; promise 17: "or there are 120." */
    private static void hundredAndTwenty() {
        InlandMails x = Land.of(2);
        for (int l = 0; l < 120; l++) {
            due("the next is none yet", x.of(l, 0), NONE);
            due("post", Land.letter(x, 0, 1), l);
        }
        due("the 121st", Land.letter(x, 0, 1), NONE);
        due("LETTERS", x.look(3), 120);
        due("in holes", x.look(10), 120);
        due("the 120th is one", x.of(119, 7), 0);
        due("the 121st is none", x.of(120, 7), NONE);
        yes("nobody of the 120th", x.nobody(119));
    }

    /** "As few on some way that does not touch the CAPITAL (FROM or TO being the CAPITAL: it is none)." */
    private static void crossEdges() {
        for (int around = 19; around <= 21; around++) {
            InlandMails x = Land.of(4);
            x.road(1, 0, 10);
            x.road(0, 2, 10);
            x.road(1, 3, 10);
            x.road(3, 2, around - 10);
            due("by " + around + " miles around", x.of(Land.letter(x, 1, 2), 9), around <= 20 ? 1 : 0);
            due("and back", x.of(Land.letter(x, 2, 1), 9), around <= 20 ? 1 : 0);
            for (int a = 1; a < 4; a++) {
                due("from the capital", x.of(Land.letter(x, 0, a), 9), 0);
                due("to the capital", x.of(Land.letter(x, a, 0), 9), 0);
            }
        }
        InlandMails x = Land.of(4);
        x.road(1, 0, 1);
        x.road(0, 2, 1);
        due("only through the capital", x.of(Land.letter(x, 1, 2), 9), 0);
        due("without a way", x.of(Land.letter(x, 1, 3), 9), 0);
        x.road(1, 2, 999);
        due("the direct road is longer", x.of(Land.letter(x, 1, 2), 9), 0);
        x.road(1, 2, 2);
        due("as long", x.of(Land.letter(x, 1, 2), 9), 1);
    }

    /** The CAPITAL alone is not to be touched: any other town may be. */
    private static void crossByEachTown() {
        for (int town = 1; town < 12; town++) {
            int from = 1 + town % 11;
            int to = 1 + from % 11;
            InlandMails x = Land.of(12);
            x.road(from, 0, 20);
            x.road(0, to, 20);
            x.road(from, town, 20);
            x.road(town, to, 20);
            due("by way of town " + town, x.of(Land.letter(x, from, to), 9), 1);
            x.road(from, 0, 19);
            due("and now the capital's way is shorter", x.of(Land.letter(x, from, to), 9), 0);
        }
    }

    /** Promise 18: "NONE if there is none such, or another what." */
    private static void whatOfLetters() {
        InlandMails x = Land.busy();
        for (int l : new int[] {LEAST, -1, 10, 119, 120, MOST}) {
            for (int what = 0; what < 13; what++) {
                due("no letter " + l, x.of(l, what), NONE);
            }
        }
        for (int l = 0; l < 10; l++) {
            for (int what : new int[] {LEAST, -1, 13, 14, MOST}) {
                due("another what", x.of(l, what), NONE);
            }
        }
    }

    /** Promise 18: "8 its place, ... 10 1 if SORTED aboard, 11 the STOP it is for aboard (NONE)." */
    private static void ofStates() {
        InlandMails x = Land.busy();
        int[] states = {6, 5, 2, 4, 0, 3, 3, 1, 1, 0};
        int[] places = {2, 1, 2, 2, 4, 2, 2, 20, 20, 5};
        for (int l = 0; l < 10; l++) {
            due("state of " + l, x.of(l, 7), states[l]);
            due("place of " + l, x.of(l, 8), places[l]);
            due("SORTED aboard " + l, x.of(l, 10), l == 8 ? 1 : 0);
            due("the STOP it is for " + l, x.of(l, 11), l == 7 ? 1 : l == 8 ? 2 : NONE);
            due("LEFT " + l, x.of(l, 12), 0);
        }
    }

    /** Promise 20: "NONE if there is none, one can't be (the same TOWN ...), or another what." */
    private static void waysOfNone() {
        InlandMails x = Land.of(4);
        Land.train(x, 0, 10, 10, 1, 20, 20, 2, 30, 30);
        way(x, 0, 0, 1, 20, 1, 0, 0, 0, 1);
        for (int a = 0; a < 4; a++) {
            way(x, a, 0, a);
            way(x, 3, 0, a);
            way(x, a, 0, 3);
            way(x, 2, 0, a);
        }
        for (int a : new int[] {LEAST, -1, 4, 12, MOST}) {
            way(x, a, 0, 1);
            way(x, 0, 0, a);
        }
        for (int what : new int[] {LEAST, -1, 6, 10, MOST}) {
            due("another what", x.way(0, 0, 1, what), NONE);
        }
        way(Land.of(2), 0, 0, 1);
    }

    /** Promise 20: "(.. a MINUTE ahead of NOW)", and beyond the last one. */
    private static void wayFromNow() {
        InlandMails x = Land.of(2);
        Land.train(x, 0, 10, 10, 1, 20, 20);
        way(x, 0, -1, 1);
        way(x, 0, LEAST, 1);
        x.minutes(10);
        way(x, 0, 9, 1);
        way(x, 0, 0, 1);
        way(x, 0, 10, 1, 20, 1, 0, 0, 0, 1);
        way(x, 0, 11, 1, 1460, 1, 0, 1, 0, 1);
        way(x, 0, 6 * 1440 + 10, 1, 6 * 1440 + 20, 1, 0, 6, 0, 1);
        way(x, 0, 6 * 1440 + 11, 1);
        way(x, 0, 10079, 1);
        way(x, 0, 10080, 1);
        way(x, 0, MOST, 1);
        Land.upTo(x, 10079);
        way(x, 0, 10079, 1);
        way(x, 0, 10078, 1);
    }

    /** "Each taken at a STOP at which it GOES not ahead of then." */
    private static void goesNotAheadOfThen() {
        InlandMails x = Land.of(2);
        Land.train(x, 0, 100, 130, 1, 200, 200);
        way(x, 0, 129, 1, 200, 1, 0, 0, 0, 1);
        way(x, 0, 130, 1, 200, 1, 0, 0, 0, 1);
        way(x, 0, 131, 1, 1640, 1, 0, 1, 0, 1);
        yes("late", x.late(0, 0, 300));
        way(x, 0, 430, 1, 500, 1, 0, 0, 0, 1);
        way(x, 0, 431, 1, 1640, 1, 0, 1, 0, 1);
    }

    /** "At a TOWN from which one goes on not ahead of that." */
    private static void goesOnNotAhead() {
        for (int goes = 49; goes <= 51; goes++) {
            InlandMails x = Land.of(3);
            Land.train(x, 0, 10, 10, 1, 50, 50);
            Land.train(x, 1, goes, goes, 2, 90, 90);
            if (goes < 50) {
                way(x, 0, 0, 2, 1530, 2, 0, 0, 0, 1);
            } else {
                way(x, 0, 0, 2, 90, 2, 0, 0, 0, 1);
            }
        }
    }

    /** "Left at a later STOP, as it COMES": not where it is taken, nor at its last STOP taken. */
    private static void leftAtALaterStop() {
        InlandMails x = Land.of(3);
        Land.train(x, 0, 10, 10);
        Land.train(x, 1, 10, 10, 0, 20, 30);
        way(x, 0, 0, 1);
        way(x, 1, 0, 0, 20, 1, 1, 0, 0, 1);
        InlandMails y = Land.of(3);
        Land.train(y, 0, 10, 10, 1, 20, 20, 0, 30, 30, 2, 40, 40);
        way(y, 0, 0, 2, 40, 1, 0, 0, 0, 3);
        way(y, 0, 11, 2, 40, 1, 0, 0, 2, 3);
        way(y, 1, 20, 0, 30, 1, 0, 0, 1, 2);
        way(y, 0, 11, 1, 1460, 1, 0, 1, 0, 1);
    }

    /** "BEST: it comes to TO first." */
    private static void comesFirst() {
        InlandMails x = Land.of(4);
        Land.train(x, 0, 10, 10, 2, 101, 101);
        Land.train(x, 0, 20, 20, 1, 30, 30, 3, 50, 50);
        Land.train(x, 3, 60, 60, 1, 80, 80);
        Land.train(x, 1, 90, 90, 2, 100, 100);
        way(x, 0, 0, 2, 100, 2, 1, 0, 0, 1);
        way(x, 0, 10, 2, 100, 2, 1, 0, 0, 1);
        yes("late by a minute: no more the first", x.late(3, 0, 1));
        way(x, 0, 10, 2, 101, 1, 0, 0, 0, 1);
        yes("by two", x.late(3, 0, 2));
        way(x, 0, 10, 2, 101, 1, 0, 0, 0, 1);
        way(x, 0, 11, 2, 102, 2, 1, 0, 0, 1);
    }

    /** "Of several the fewest RUNS." */
    private static void fewestRuns() {
        InlandMails x = Land.of(4);
        Land.train(x, 0, 10, 10, 1, 20, 20);
        Land.train(x, 1, 30, 30, 2, 40, 40);
        Land.train(x, 2, 50, 50, 3, 60, 60);
        way(x, 0, 0, 3, 60, 3, 0, 0, 0, 1);
        Land.train(x, 1, 21, 21, 3, 60, 60);
        way(x, 0, 0, 3, 60, 2, 0, 0, 0, 1);
        Land.train(x, 0, 9, 9, 3, 60, 60);
        way(x, 0, 0, 3, 60, 1, 4, 0, 0, 1);
        way(x, 0, 10, 3, 60, 2, 0, 0, 0, 1);
        InlandMails y = Land.of(12);
        for (int t = 0; t < 10; t++) {
            Land.train(y, t, 100 * t, 100 * t, t + 1, 100 * t + 100, 100 * t + 100);
        }
        way(y, 0, 0, 10, 1000, 10, 0, 0, 0, 1);
        way(y, 0, 1, 10, 2440, 10, 0, 1, 0, 1);
        way(y, 9, 0, 10, 1000, 1, 9, 0, 0, 1);
        way(y, 0, 0, 11);
    }

    /** "Of these the first RUN of the least TRAIN, then DAY." */
    private static void leastTrainThenDay() {
        InlandMails x = Land.of(3);
        Land.train(x, 2, 5, 5, 0, 1450, 1450, 1, 1460, 1460);
        Land.train(x, 0, 15, 15, 1, 20, 20);
        Land.train(x, 0, 10, 10, 1, 20, 20);
        way(x, 0, 0, 1, 20, 1, 1, 0, 0, 1);
        way(x, 0, 15, 1, 20, 1, 1, 0, 0, 1);
        way(x, 0, 16, 1, 1460, 1, 0, 0, 1, 2);
        way(x, 0, 1450, 1, 1460, 1, 0, 0, 1, 2);
        way(x, 0, 1451, 1, 1460, 1, 1, 1, 0, 1);
        InlandMails y = Land.of(3);
        Land.train(y, 0, 100, 100, 1, 200, 200, 0, 1540, 1540, 1, 1640, 1640);
        way(y, 0, 101, 1, 1640, 1, 0, 0, 2, 3);
        way(y, 0, 1540, 1, 1640, 1, 0, 0, 2, 3);
        way(y, 0, 1541, 1, 3080, 1, 0, 1, 2, 3);
        way(y, 0, 6 * 1440, 1, 6 * 1440 + 200, 1, 0, 5, 2, 3);
        way(y, 0, 6 * 1440 + 101, 1);
        yes("late: the next day's comes first", y.late(0, 0, 1));
        way(y, 0, 102, 1, 1640, 1, 0, 1, 0, 1);
    }

    /** "Taken at the earliest STOP, left at the earliest STOP." */
    private static void earliestStops() {
        InlandMails x = Land.of(4);
        Land.train(x, 0, 10, 10, 1, 20, 20, 0, 30, 30, 1, 40, 40, 2, 50, 50);
        Land.train(x, 1, 60, 60, 3, 70, 70);
        way(x, 0, 0, 3, 70, 2, 0, 0, 0, 1);
        way(x, 0, 10, 3, 70, 2, 0, 0, 0, 1);
        way(x, 0, 11, 3, 70, 2, 0, 0, 2, 3);
        way(x, 0, 0, 2, 50, 1, 0, 0, 0, 4);
        way(x, 0, 11, 2, 50, 1, 0, 0, 2, 4);
        Land.train(x, 2, 60, 60, 3, 70, 70);
        way(x, 0, 0, 3, 70, 2, 0, 0, 0, 1);
        way(x, 1, 21, 3, 70, 1, 1, 0, 0, 1);
    }

    /** "By all that is told of LATE so far, whatever was MISSED." */
    private static void whateverWasMissed() {
        InlandMails x = Land.of(3);
        x.train();
        x.stop(0, 0, 10, 10, true);
        x.stop(0, 1, 20, 20, true);
        x.stop(0, 2, 30, 30, true);
        way(x, 0, 0, 1, 20, 1, 0, 0, 0, 1);
        yes("miss", x.miss(0, 0, 1));
        way(x, 0, 0, 1, 20, 1, 0, 0, 0, 1);
        yes("miss", x.miss(0, 0, 0));
        way(x, 0, 0, 1, 20, 1, 0, 0, 0, 1);
        yes("late", x.late(0, 0, 300));
        way(x, 0, 0, 1, 320, 1, 0, 0, 0, 1);
        yes("late no more", x.late(0, 0, 0));
        way(x, 0, 0, 1, 20, 1, 0, 0, 0, 1);
    }

    /** Promise 21: "NONE if there is none such, or another what." */
    private static void rowsOfLead() {
        InlandMails x = Land.busy();
        int[] count = {4, 4, 3, 3, 1, 3, 3, 2, 2, 1};
        for (int l = 0; l < 10; l++) {
            for (int what = 0; what < 3; what++) {
                due("the last row of " + l, x.lead(l, count[l] - 1, what) == NONE ? 1 : 0, 0);
                for (int i : new int[] {LEAST, -1, count[l], count[l] + 1, MOST}) {
                    due("row " + i + " of " + l, x.lead(l, i, what), NONE);
                }
            }
            for (int what : new int[] {LEAST, -1, 3, MOST}) {
                due("another what", x.lead(l, 0, what), NONE);
            }
        }
        for (int l : new int[] {LEAST, -1, 10, 120, MOST}) {
            due("no letter " + l, x.lead(l, 0, 0), NONE);
        }
    }

    /** "Rows of a MINUTE, a STATE ... and a place (a TOWN; ABOARD and ROBBED 10 d + t of the RUN)." */
    private static void oneForEachChange() {
        InlandMails x = Land.busy();
        rows(x, 0, 0, 0, 0, 60, 1, 0, 180, 3, 2, 1440, 6, 2);
        rows(x, 1, 0, 0, 0, 60, 1, 0, 180, 3, 2, 1060, 5, 1);
        rows(x, 2, 0, 0, 0, 60, 1, 0, 180, 2, 2);
        rows(x, 3, 0, 0, 3, 50, 1, 2, 60, 4, 2);
        rows(x, 4, 0, 0, 4);
        rows(x, 5, 1440, 0, 0, 1505, 1, 10, 1625, 3, 2);
        rows(x, 7, 2931, 0, 0, 2940, 1, 20);
        rows(x, 9, 2931, 0, 5);
    }

    /** Promise 22: "Where LETTER l was at the end of a MINUTE." */
    private static void whereAtTheEnd() {
        InlandMails x = Land.busy();
        int[] minutes = {0, 59, 60, 179, 180, 1059, 1060, 1061, Land.BUSY};
        int[] states = {0, 0, 1, 1, 3, 3, 5, 5, 5};
        int[] places = {0, 0, 0, 0, 2, 2, 1, 1, 1};
        for (int k = 0; k < minutes.length; k++) {
            due("state at " + minutes[k], x.where(1, minutes[k], 0), states[k]);
            due("place at " + minutes[k], x.where(1, minutes[k], 1), places[k]);
        }
        due("burnt in the first minute of its day", x.where(0, 1440, 0), 6);
        due("dead a minute ahead", x.where(0, 1439, 0), 3);
        due("robbed in the minute", x.where(3, 60, 0), 4);
        due("of the run", x.where(3, 60, 1), 2);
        due("aboard a minute ahead", x.where(3, 59, 0), 1);
    }

    /** Promise 22: "(Up to NOW) ... NONE if it was not POSTED by then, one can't be, or another what." */
    private static void whereOfNone() {
        InlandMails x = Land.busy();
        due("the minute ahead of its posting", x.where(5, 1439, 0), NONE);
        due("the minute of its posting", x.where(5, 1440, 0), 0);
        due("NOW", x.where(5, Land.BUSY, 0), 3);
        due("the minute behind NOW", x.where(5, Land.BUSY + 1, 0), NONE);
        for (int minute : new int[] {LEAST, -1, 10079, 10080, MOST}) {
            due("minute " + minute, x.where(0, minute, 0), NONE);
        }
        for (int l : new int[] {LEAST, -1, 10, 120, MOST}) {
            due("letter " + l, x.where(l, Land.BUSY, 0), NONE);
        }
        for (int what : new int[] {LEAST, -1, 2, MOST}) {
            due("what " + what, x.where(0, Land.BUSY, what), NONE);
        }
        due("posted now", Land.letter(x, 4, 3), 10);
        due("a minute ago", x.where(10, Land.BUSY - 1, 0), NONE);
        due("now", x.where(10, Land.BUSY, 1), 4);
    }

    /** Promise 26: "NONE if one can't be, there is none such, or another what." */
    private static void accountOfNone() {
        InlandMails x = Land.busy();
        due("OUT of 0 to 2", x.account(0, 2, 0), 30);
        for (int a : new int[] {LEAST, -1, 6, 12, MOST}) {
            due("from " + a, x.account(a, 0, 0), NONE);
            due("to " + a, x.account(0, a, 0), NONE);
        }
        for (int a = 0; a < 6; a++) {
            due("from a town to itself", x.account(a, a, 0), NONE);
        }
        for (int what : new int[] {LEAST, LEAST + 9, -10, -1, 3, 4, 9, MOST}) {
            due("what " + what, x.account(0, 2, what), NONE);
        }
        due("between two without letters", x.account(2, 0, 0), 0);
        due("they differ by none", x.account(2, 0, 2), 0);
        due("no first one", x.account(2, 0, 10), NONE);
    }

    /** "They DIFFER by those of them with something OWED that were not GIVEN, by numbers." */
    private static void accountDiffers() {
        InlandMails x = Land.busy();
        due("IN of 0 to 2", x.account(0, 2, 1), 8);
        int[] differ = {0, 1, 5, 6, 8};
        due("burnt, found, dead and aboard", x.account(0, 2, 2), differ.length);
        for (int i = 0; i < differ.length; i++) {
            due("the " + i + "-th", x.account(0, 2, 10 + i), differ[i]);
        }
        due("none behind them", x.account(0, 2, 15), NONE);
        due("robbed", x.account(3, 1, 10), 3);
        due("with nothing OWED", x.account(4, 5, 2), 0);
        due("a free frank", x.account(5, 4, 2), 0);
    }

    /** Promise 27: "false ... if there is none such, it was told, or it lies no more in a HOLE or ABOARD." */
    private static void nobodyTillGiven() {
        InlandMails x = Land.busy();
        boolean[] may = {false, false, false, false, true, false, false, true, true, true};
        for (int l = 0; l < 10; l++) {
            DUE.is("nobody(" + l + ")", x.nobody(l), may[l]);
            no("it was told, or can't be", x.nobody(l));
        }
        for (int l : new int[] {LEAST, -1, 10, 120, MOST}) {
            no("no letter " + l, x.nobody(l));
        }
        x.minutes(180);
        due("told aboard: not GIVEN but DEAD", x.of(8, 7), 3);
        InlandMails y = Land.of(2);
        Land.train(y, 0, 10, 10, 1, 20, 20);
        Land.letter(y, 0, 1);
        y.minutes(19);
        yes("a minute ahead of its coming", y.nobody(0));
        Land.letter(y, 1, 0);
        y.minutes(1);
        due("DEAD in its TOWN TO", y.of(0, 7), 3);
        due("there", y.of(0, 8), 1);
        no("DEAD, it is told no more", y.nobody(0));
    }

    /** "PLACES are told of a DEAD LETTER"; promise 28: "it does not lie DEAD." */
    private static void placesOfDead() {
        InlandMails x = Land.busy();
        for (int l = -1; l < 11; l++) {
            boolean dead = l == 5 || l == 6;
            DUE.is("a place of letter " + l, x.place(l, 0, 99), dead);
        }
        int[] states = {6, 5, 2, 4, 0, 3, 3, 1, 1, 0};
        for (int l = 0; l < 10; l++) {
            due("its state is as it was", x.of(l, 7), states[l]);
        }
        due("places of the found one stay", x.order(1, 0), 1);
    }

    private static InlandMails oneDead() {
        InlandMails x = Land.of(12);
        Land.train(x, 0, 10, 10, 11, 20, 20);
        Land.letter(x, 0, 11);
        x.nobody(0);
        x.minutes(20);
        return x;
    }

    /** "TOWNS with a chance (1 .. 99 hundredths; at most 4, of one TOWN the latest)." */
    private static void fourPlaces() {
        InlandMails x = oneDead();
        for (int chance : new int[] {LEAST, -1, 0, 100, 101, MOST}) {
            no("chance " + chance, x.place(0, 3, chance));
        }
        yes("chance 1", x.place(0, 3, 1));
        yes("chance 99", x.place(0, 3, 99));
        due("of one TOWN one", x.order(0, 0), 1);
        due("the latest", x.order(0, 20), 99);
        for (int town = 4; town < 7; town++) {
            yes("another", x.place(0, town, 50));
        }
        due("four", x.order(0, 0), 4);
        no("a fifth", x.place(0, 7, 50));
        for (int town = 3; town < 7; town++) {
            no("of chance 0", x.place(0, town, 0));
            no("of chance 100", x.place(0, town, 100));
            yes("one of the four, the latest", x.place(0, town, town));
        }
        due("four", x.order(0, 0), 4);
        int[] towns = {6, 5, 4, 3};
        for (int i = 0; i < 4; i++) {
            due("town", x.order(0, 10 + i), towns[i]);
            due("chance", x.order(0, 20 + i), towns[i]);
        }
        no("a fifth", x.place(0, 0, 50));
    }

    /** "But TO." */
    private static void placesButTo() {
        InlandMails x = oneDead();
        for (int town = 0; town < 12; town++) {
            InlandMails y = oneDead();
            DUE.is("a place in town " + town, y.place(0, town, 50), town != 11);
            due("so many", y.order(0, 0), town != 11 ? 1 : 0);
        }
        for (int town : new int[] {LEAST, -1, 12, MOST}) {
            no("no town " + town, x.place(0, town, 50));
        }
        yes("the town FROM", x.place(0, 0, 50));
    }

    /** "ORDER: the greatest chance first, of like ones the least TOWN." */
    private static void orderOfPlaces() {
        int[][] told = {{1, 2, 3, 4}, {4, 3, 2, 1}, {2, 4, 1, 3}, {3, 1, 4, 2}};
        for (int[] towns : told) {
            InlandMails like = oneDead();
            InlandMails unlike = oneDead();
            for (int town : towns) {
                like.place(0, town, 7);
                unlike.place(0, town, town < 3 ? 1 : 99);
            }
            int[] order = {3, 4, 1, 2};
            for (int i = 0; i < 4; i++) {
                due("of like ones", like.order(0, 10 + i), i + 1);
                due("the greatest first", unlike.order(0, 10 + i), order[i]);
                due("its chance", unlike.order(0, 20 + i), i < 2 ? 99 : 1);
            }
        }
    }

    /** "Of one TOWN the latest": each of four towns told anew, to come to each place in the ORDER. */
    private static void orderAsToldAnew() {
        for (int n = 1; n <= 4; n++) {
            for (int town = 1; town <= n; town++) {
                for (int chance = 5; chance <= 95; chance += 5) {
                    InlandMails x = oneDead();
                    for (int k = 1; k <= n; k++) {
                        x.place(0, k, 100 - 20 * k);
                    }
                    yes("told anew", x.place(0, town, chance));
                    inOrder(x, n, town, chance);
                }
            }
        }
    }

    /** Town k has chance 100 - 20 k, but one of them. */
    private static void inOrder(InlandMails x, int n, int town, int chance) {
        due("so many", x.order(0, 0), n);
        long seen = 0;
        for (int i = 0; i < n; i++) {
            long here = x.order(0, 10 + i);
            seen |= 1L << here;
            due("chance of town " + here, x.order(0, 20 + i), here == town ? chance : 100 - 20 * here);
            if (i > 0) {
                long more = x.order(0, 19 + i) - x.order(0, 20 + i);
                yes("the greater first, of like ones the lesser town", more > 0 || more == 0 && x.order(0, 9 + i) < here);
            }
        }
        due("each town once", seen, (1L << n + 1) - 2);
    }

    /** "FOUND by trying all: ... as a fraction in lowest terms." */
    private static void lowestTerms() {
        InlandMails x = oneDead();
        long[][] want = {{1, 100}, {199, 10000}, {29701, 1000000}, {3940399, 100000000}};
        for (int n = 0; n < 4; n++) {
            x.place(0, n, 1);
            due("above", x.order(0, 1), want[n][0]);
            due("below", x.order(0, 2), want[n][1]);
        }
        long[][] most = {{99, 100}, {9999, 10000}, {999999, 1000000}, {99999999, 100000000}};
        InlandMails y = oneDead();
        for (int n = 0; n < 4; n++) {
            y.place(0, n, 99);
            due("above", y.order(0, 1), most[n][0]);
            due("below", y.order(0, 2), most[n][1]);
        }
        long[][] halves = {{1, 2}, {3, 4}, {7, 8}, {15, 16}};
        InlandMails z = oneDead();
        for (int n = 0; n < 4; n++) {
            z.place(0, n, 50);
            due("above", z.order(0, 1), halves[n][0]);
            due("below", z.order(0, 2), halves[n][1]);
        }
    }

    /** Promise 29: "NONE if there is none such, another what; 1, 2: without PLACES." */
    private static void orderOfNone() {
        InlandMails x = oneDead();
        due("how many", x.order(0, 0), 0);
        for (int what : new int[] {LEAST, -1, 1, 2, 3, 9, 10, 14, 19, 20, 24, MOST}) {
            due("without PLACES: order(0, " + what + ")", x.order(0, what), NONE);
        }
        for (int n = 1; n <= 4; n++) {
            x.place(0, n, n);
            due("how many", x.order(0, 0), n);
            for (int what : new int[] {LEAST, -1, 3, 9, 10 + n, 14, 19, 20 + n, 24, MOST}) {
                due(n + " PLACES: order(0, " + what + ")", x.order(0, what), NONE);
            }
            due("the last town", x.order(0, 9 + n), 1);
            due("the last chance", x.order(0, 19 + n), 1);
        }
        for (int l : new int[] {LEAST, -1, 1, 120, MOST}) {
            due("no letter " + l, x.order(l, 0), NONE);
        }
    }

    /** Promise 30: "DEAD LETTER l is found at a PLACE of its own: ... false ... if it is none." */
    private static void foundAtItsOwn() {
        InlandMails x = Land.busy();
        for (int town : new int[] {LEAST, -1, 2, 3, 4, 5, 6, MOST}) {
            no("letter 5 in town " + town, x.found(5, town));
        }
        for (int l : new int[] {LEAST, -1, 0, 1, 2, 3, 4, 7, 8, 9, 10, 120, MOST}) {
            no("letter " + l, x.found(l, 1));
        }
        yes("letter 5 at its second place", x.found(5, 1));
        no("once more", x.found(5, 1));
        no("at its first", x.found(5, 0));
        due("FOUND", x.of(5, 7), 5);
        due("there", x.of(5, 8), 1);
        due("a row for it", x.lead(5, 3, 0), Land.BUSY);
        yes("letter 6 at the last of four", x.found(6, 4));
        due("two more", x.look(15), 3);
        InlandMails y = oneDead();
        no("without PLACES", y.found(0, 0));
    }

    /** "Each LETTER that lies DEAD for dead DAYS (...; DAYS that began since, this one too) is burnt." */
    private static void burntAfterDays() {
        for (int dead = 0; dead <= 7; dead++) {
            InlandMails x = Land.of(2);
            Land.train(x, 0, 10, 10, 1, 20, 20);
            Land.act(x, 0, "dead " + dead + ";");
            Land.letter(x, 0, 1);
            Land.act(x, 0, "dead 1;");
            x.nobody(0);
            int burnt = 1440 * Math.max(dead, 1);
            Land.upTo(x, Math.min(burnt - 1, 10079));
            due("dead " + dead + ": a minute ahead", x.of(0, 7), 3);
            due("no day began behind it", x.lead(0, 3, 0), NONE);
            if (burnt <= 10079) {
                x.minutes(1);
                due("dead " + dead + ": burnt", x.of(0, 7), 6);
                due("as the day begins", x.lead(0, 3, 0), burnt);
                due("in its TOWN TO", x.of(0, 8), 1);
                x.minutes(3);
                due("once", x.lead(0, 4, 0), NONE);
            }
        }
    }

    /** "As a DAY begins (ahead of all else in its first MINUTE)": who dies in that minute is not. */
    private static void burntAheadOfAllElse() {
        InlandMails x = Land.of(2);
        Land.train(x, 0, 1430, 1430, 1, 1439, 1439);
        Land.act(x, 0, "dead 1;");
        Land.letter(x, 0, 1);
        x.nobody(0);
        x.minutes(1439);
        due("dead in the last minute of day 0", x.of(0, 7), 3);
        x.minutes(1);
        due("burnt as day 1 begins", x.of(0, 7), 6);
        InlandMails y = Land.of(2);
        Land.train(y, 0, 1430, 1430, 1, 1440, 1440);
        Land.act(y, 0, "dead 1;");
        Land.letter(y, 0, 1);
        y.nobody(0);
        y.minutes(1440);
        due("dead in the first minute of day 1", y.of(0, 7), 3);
        y.minutes(1439);
        due("all that day", y.of(0, 7), 3);
        y.minutes(1);
        due("burnt as day 2 begins", y.of(0, 7), 6);
    }
}
