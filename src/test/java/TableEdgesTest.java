/**
 * Terms, and promises 1 to 11: each sentence that names an edge, with what lies on it and what lies
 * just beyond. The sentence stands above its test. (That nothing is done by what is refused, is
 * RefusedTest's.)
 */
public final class TableEdgesTest {
    private static final Due DUE = new Due("TableEdgesTest");
    private static final int NONE = InlandMails.NONE;
    private static final int LEAST = Integer.MIN_VALUE;
    private static final int MOST = Integer.MAX_VALUE;
    private static final int ALL = 4095;

    public static void main(String[] args) {
        noTownsAtFirst();
        nothingIsInANewObject();
        daysOfMinutes();
        twelveTowns();
        milesOfRoads();
        inPlaceOfOne();
        leastAlongRoads();
        tenTrains();
        minutesOfStops();
        townUnlikeTheOneAhead();
        comesBehindTheGoesAhead();
        fastAlike();
        eightStops();
        stopsTillNowIsBeyond();
        whatOfStops();
        lateBy();
        lateTill();
        lateWithoutStops();
        allStopsLater();
        comesBehindTheLastMinute();
        goesBehindTheLastMinute();
        missedFast();
        missedNotTheLast();
        missedTold();
        missedComeThere();
        soManyMinutes();
        beyondTheLastMinute();
        upToTheNewOne();
        whatIsLookedAt();
        DUE.close();
    }

    private static void due(String call, long got, long want) {
        DUE.is(call, got, want);
    }

    private static void yes(String call, boolean got) {
        DUE.is(call, got, true);
    }

    private static void no(String call, boolean got) {
        DUE.is(call, got, false);
    }

    /** Promise 1: "No TOWNS, MINUTE 0." */
    private static void noTownsAtFirst() {
        InlandMails x = new InlandMails();
        due("TOWNS", x.look(1), 0);
        due("MINUTE", x.look(0), 0);
        due("town 0 is none", x.miles(0, 0), NONE);
        no("nor can a road be", x.road(0, 1, 1));
    }

    /** Empty: every asking call of an object to which nothing was told. */
    private static void nothingIsInANewObject() {
        InlandMails x = new InlandMails();
        for (int what = 0; what <= 12; what++) {
            due("stopOf", x.stopOf(0, NONE, what), NONE);
            due("inForce", x.inForce(0, what), NONE);
            due("of", x.of(0, what), NONE);
            due("charge", x.charge(0, what), NONE);
            due("way", x.way(0, 0, 1, what), NONE);
            due("lead", x.lead(0, 0, what), NONE);
            due("where", x.where(0, 0, what), NONE);
            due("run", x.run(0, 0, what), NONE);
            due("account", x.account(0, 1, what), NONE);
            due("order", x.order(0, what), NONE);
            due("robbery", x.robbery(0, what), NONE);
            due("clock", x.clock(0, what), -1000);
            due("trueMinute", x.trueMinute(0, 0, what), NONE);
            due("seats", x.seats(what), NONE);
        }
        for (int s = 0; s < 7; s++) {
            due("letters in state " + s, x.look(10 + s), 0);
        }
        due("fault 0 without one", x.fault(0), 0);
        due("and NONE", x.fault(1), NONE);
        due("tried", x.tried(0), NONE);
        due("whatIf of no run", x.whatIf(0, 0, 0), NONE);
        due("nothing goes on", x.whatIf(NONE, 0, 0), 0);
        no("late", x.late(0, 0, 0));
        no("miss", x.miss(0, 0, 0));
        no("seat", x.seat(0, NONE));
        no("nobody", x.nobody(0));
        no("place", x.place(0, 0, 1));
        no("found", x.found(0, 0));
        no("set", x.set(0));
        no("seen", x.seen(0, 0));
        due("rob", x.rob(0, 0), NONE);
    }

    /** "DAY d 0 .. 6 has the MINUTES 1440 d .. 1440 d + 1439." */
    private static void daysOfMinutes() {
        InlandMails x = Land.of(2);
        due("act", Land.act(x, 0, "charge day * 100 + hour;"), 0);
        for (int d = 0; d <= 6; d++) {
            Land.upTo(x, 1440 * d);
            due("the first minute of day " + d, x.charge(Land.letter(x, 0, 1), 0), 100 * d);
            Land.upTo(x, 1440 * d + 1439);
            due("the last minute of day " + d, x.charge(Land.letter(x, 0, 1), 0), 100 * d + 23);
        }
        due("that is the last of all", x.minutes(1), NONE);
    }

    /** "TOWNS 0 .. 11"; promise 2: "NONE if there are 12." */
    private static void twelveTowns() {
        InlandMails x = Land.of(11);
        no("a road to one that is not yet", x.road(0, 11, 1));
        due("the twelfth", x.town(), 11);
        yes("a road to it", x.road(0, 11, 1));
        due("the 13th", x.town(), NONE);
        due("once more", x.town(), NONE);
        due("TOWNS", x.look(1), 12);
    }

    /** "MILES 1 .. 999"; promise 3: "false ... if one can't be." */
    private static void milesOfRoads() {
        int[] wrong = {LEAST, -999, -1, 0, 1000, 1001, MOST};
        for (int miles : wrong) {
            InlandMails x = Land.of(2);
            no("a road of miles " + miles, x.road(0, 1, miles));
            due("there is none", x.miles(0, 1), NONE);
        }
        for (int miles : new int[] {1, 2, 998, 999}) {
            InlandMails x = Land.of(2);
            yes("a road of miles " + miles, x.road(0, 1, miles));
            due("there it is", x.miles(0, 1), miles);
            due("and back", x.miles(1, 0), miles);
        }
        InlandMails x = Land.of(3);
        for (int a : new int[] {LEAST, -1, 3, 12, MOST}) {
            no("a road from no town", x.road(a, 0, 5));
            no("a road to no town", x.road(0, a, 5));
            due("miles from no town", x.miles(a, 0), NONE);
            due("miles to no town", x.miles(0, a), NONE);
            due("miles within no town", x.miles(a, a), NONE);
        }
        for (int a = 0; a < 3; a++) {
            no("a road within a town", x.road(a, a, 5));
            due("0 of one TOWN", x.miles(a, a), 0);
        }
    }

    /** Promise 3: "A ROAD between TOWNS (in place of one)." */
    private static void inPlaceOfOne() {
        InlandMails x = Land.of(3);
        yes("a road", x.road(0, 1, 10));
        yes("a longer one in its place", x.road(0, 1, 999));
        due("the longer counts", x.miles(0, 1), 999);
        yes("a shorter one, told from the other end", x.road(1, 0, 1));
        due("the shorter counts", x.miles(0, 1), 1);
        yes("a longer one, told from the other end", x.road(1, 0, 500));
        due("the longer counts", x.miles(0, 1), 500);
        no("one that can't be", x.road(0, 1, 1000));
        due("puts none in its place", x.miles(1, 0), 500);
    }

    /** "The least along ROADS (NONE without a way)." */
    private static void leastAlongRoads() {
        InlandMails x = Land.of(12);
        for (int a = 0; a < 11; a++) {
            due("without a way", x.miles(0, a + 1), NONE);
            yes("road", x.road(a, a + 1, 999));
            due("the longest chain", x.miles(0, a + 1), 999 * (a + 1));
        }
        due("and back", x.miles(11, 0), 10989);
        yes("one beside it", x.road(0, 11, 999));
        due("is less", x.miles(11, 0), 999);
        due("for its neighbours, too", x.miles(1, 10), 3 * 999);
        due("as far on both sides", x.miles(0, 6), 6 * 999);
    }

    /** "TRAINS 0 .. 9"; promise 5: "NONE if there are 10." */
    private static void tenTrains() {
        InlandMails x = Land.of(1);
        for (int t = 0; t < 9; t++) {
            due("train", x.train(), t);
        }
        due("a stop of one that is not yet", x.stop(9, 0, 5, 5, false), NONE);
        x.minutes(1);
        due("a train may come at any minute", x.train(), 9);
        due("without stops", x.stopOf(9, NONE, 0), 0);
        due("the 11th", x.train(), NONE);
        due("TRAINS", x.look(2), 10);
    }

    /** "COMES and GOES in minutes of the DAY on which the TRAIN begins (0 .. 2400; GOES not ahead of COMES ..." */
    private static void minutesOfStops() {
        int[][] wrong = {{-1, 0}, {-1, -1}, {LEAST, 0}, {0, 2401}, {2400, 2401}, {2401, 2401}, {5, 4}, {1, 0},
            {2400, 2399}, {0, -1}, {MOST, MOST}, {0, MOST}, {MOST, LEAST}};
        for (int[] told : wrong) {
            InlandMails x = Land.of(1);
            x.train();
            due("comes " + told[0] + " goes " + told[1], x.stop(0, 0, told[0], told[1], false), NONE);
            due("no stop", x.stopOf(0, NONE, 0), 0);
        }
        int[][] good = {{0, 0}, {0, 2400}, {2400, 2400}, {5, 5}, {0, 1}, {2399, 2400}};
        for (int[] told : good) {
            InlandMails x = Land.of(1);
            x.train();
            due("comes " + told[0] + " goes " + told[1], x.stop(0, 0, told[0], told[1], false), 0);
            due("COMES", x.stopOf(0, 0, 1), told[0]);
            due("GOES", x.stopOf(0, 0, 2), told[1]);
        }
    }

    /** "A TOWN (unlike the one ahead)." */
    private static void townUnlikeTheOneAhead() {
        InlandMails x = Land.of(2);
        x.train();
        due("the first may be any", x.stop(0, 0, 1, 1, false), 0);
        due("the same", x.stop(0, 0, 3, 3, false), NONE);
        due("the other", x.stop(0, 1, 3, 3, false), 1);
        due("the same", x.stop(0, 1, 5, 5, false), NONE);
        due("the one ahead of the one ahead", x.stop(0, 0, 5, 5, false), 2);
        x.train();
        due("another train's is none ahead", x.stop(1, 0, 1, 1, false), 0);
        for (int town : new int[] {LEAST, -1, 2, 11, 12, MOST}) {
            due("no town " + town, x.stop(1, town, 9, 9, false), NONE);
        }
    }

    /** "COMES behind the GOES ahead." */
    private static void comesBehindTheGoesAhead() {
        InlandMails x = Land.of(2);
        x.train();
        due("stop", x.stop(0, 0, 10, 20, false), 0);
        due("ahead of its coming", x.stop(0, 1, 9, 30, false), NONE);
        due("between", x.stop(0, 1, 15, 30, false), NONE);
        due("as it goes", x.stop(0, 1, 20, 30, false), NONE);
        due("a minute behind", x.stop(0, 1, 21, 2400, false), 1);
        due("none comes behind 2400", x.stop(0, 0, 2400, 2400, false), NONE);
        due("nor at 2401", x.stop(0, 0, 2401, 2401, false), NONE);
    }

    /** "FAST or not (then COMES and GOES are the same)." */
    private static void fastAlike() {
        InlandMails x = Land.of(2);
        x.train();
        due("fast, and stays a minute", x.stop(0, 0, 0, 1, true), NONE);
        due("fast at 0", x.stop(0, 0, 0, 0, true), 0);
        due("it is fast", x.stopOf(0, 0, 3), 1);
        due("the same minute, not fast", x.stop(0, 1, 7, 7, false), 1);
        due("it is not", x.stopOf(0, 1, 3), 0);
        due("fast, and goes ahead of its coming", x.stop(0, 0, 9, 8, true), NONE);
        due("fast at 2400", x.stop(0, 0, 2400, 2400, true), 2);
    }

    /** "STOPS 0 .. 7"; promise 6: "NONE ... if one can't be, or there are 8." */
    private static void eightStops() {
        InlandMails x = Land.of(2);
        x.train();
        x.train();
        for (int i = 0; i < 8; i++) {
            due("stop", x.stop(0, i % 2, i, i, false), i);
        }
        due("the ninth", x.stop(0, 0, 8, 8, false), NONE);
        due("there are 8", x.stopOf(0, NONE, 0), 8);
        due("the eighth is", x.stopOf(0, 7, 1), 7);
        due("the ninth is not", x.stopOf(0, 8, 1), NONE);
        due("another train has its own", x.stop(1, 0, 0, 0, false), 0);
        for (int t : new int[] {LEAST, -1, 2, 9, 10, MOST}) {
            due("no train " + t, x.stop(t, 0, 10, 10, false), NONE);
        }
    }

    /** "STOPS of a TRAIN come only till NOW is beyond 0." */
    private static void stopsTillNowIsBeyond() {
        InlandMails x = Land.of(2);
        x.train();
        due("minutes(0) is none", x.minutes(0), NONE);
        due("at 0", x.stop(0, 0, 5, 5, false), 0);
        due("at 0 once more, behind what it has", x.stop(0, 1, 9, 9, false), 1);
        x.minutes(1);
        due("at 1", x.stop(0, 0, 15, 15, false), NONE);
        x.train();
        due("at 1, the first of its train", x.stop(1, 0, 15, 15, false), NONE);
    }

    /** Promise 7: "Of i NONE how many STOPS (what 0). NONE if there is none such, or another what." */
    private static void whatOfStops() {
        InlandMails x = Land.of(2);
        x.train();
        due("none yet", x.stopOf(0, NONE, 0), 0);
        due("the first is not", x.stopOf(0, 0, 0), NONE);
        x.stop(0, 1, 3, 4, false);
        x.stop(0, 0, 8, 8, true);
        int[][] want = {{1, 3, 4, 0}, {0, 8, 8, 1}};
        for (int i = 0; i < 2; i++) {
            for (int what = 0; what < 4; what++) {
                due("stop " + i + " what " + what, x.stopOf(0, i, what), want[i][what]);
            }
            for (int what : new int[] {LEAST, -1, 4, MOST}) {
                due("another what", x.stopOf(0, i, what), NONE);
            }
        }
        for (int what : new int[] {LEAST, -1, 1, 2, 3, 4, MOST}) {
            due("of NONE another what", x.stopOf(0, NONE, what), NONE);
        }
        for (int i : new int[] {LEAST, -2, 2, 7, 8, MOST}) {
            due("no stop " + i, x.stopOf(0, i, 0), NONE);
        }
        for (int t : new int[] {LEAST, -1, 1, 10, MOST}) {
            due("no train " + t, x.stopOf(t, 0, 0), NONE);
            due("how many of no train " + t, x.stopOf(t, NONE, 0), NONE);
        }
    }

    /** "LATE by n minutes (0 .. 300, 0 at first)." */
    private static void lateBy() {
        InlandMails x = Land.of(2);
        Land.train(x, 0, 10, 10, 1, 20, 20);
        for (int d = 0; d < 7; d++) {
            due("0 at first", x.run(0, d, 4), 0);
            yes("by 300", x.late(0, d, 300));
            due("so it is", x.run(0, d, 4), 300);
            no("by 301", x.late(0, d, 301));
            no("by -1", x.late(0, d, -1));
            no("by the least int", x.late(0, d, LEAST));
            no("by the greatest int", x.late(0, d, MOST));
            due("so it stays", x.run(0, d, 4), 300);
            yes("by 0 again", x.late(0, d, 0));
            due("so it is", x.run(0, d, 4), 0);
        }
        for (int d : new int[] {LEAST, -1, 7, MOST}) {
            no("on day " + d, x.late(0, d, 1));
        }
        for (int t : new int[] {LEAST, -1, 1, 10, MOST}) {
            no("of train " + t, x.late(t, 0, 1));
        }
    }

    /** "Which may be told till its first STOP's GOES (without being LATE) is NOW or behind." */
    private static void lateTill() {
        InlandMails x = Land.of(2);
        Land.train(x, 0, 0, 0, 1, 20, 20);
        Land.train(x, 0, 5, 100, 1, 120, 120);
        Land.train(x, 0, 2400, 2400);
        no("GOES 0 is NOW", x.late(0, 0, 5));
        yes("on the next day it is not", x.late(0, 1, 5));
        x.minutes(99);
        yes("it has come, but goes a minute from now", x.late(1, 0, 300));
        x.minutes(1);
        no("GOES without being LATE is NOW", x.late(1, 0, 5));
        due("it has not gone at all", x.run(1, 0, 2), NONE);
        x.minutes(100);
        no("nor behind it", x.late(1, 0, 301));
        no("nor behind it", x.late(1, 0, 300));
        Land.upTo(x, 1439);
        yes("a minute ahead", x.late(0, 1, 9));
        x.minutes(1);
        no("as it goes without being LATE", x.late(0, 1, 9));
        Land.upTo(x, 2399);
        yes("on the day behind its own", x.late(2, 0, 9));
        x.minutes(1);
        no("till then", x.late(2, 0, 9));
        Land.upTo(x, 10079);
        yes("what goes behind the last minute may be told yet", x.late(2, 6, 9));
        no("what went may not", x.late(1, 6, 9));
    }

    /** Promise 8: "Or it has no STOPS." */
    private static void lateWithoutStops() {
        InlandMails x = Land.of(1);
        x.train();
        no("without stops", x.late(0, 6, 1));
        due("LATE 0", x.run(0, 6, 4), 0);
        x.stop(0, 0, 1, 1, false);
        yes("with one", x.late(0, 6, 1));
    }

    /** "All its STOPS are so much later." */
    private static void allStopsLater() {
        InlandMails x = Land.of(3);
        Land.train(x, 0, 10, 10, 1, 20, 25, 2, 30, 30);
        Land.sorterIn(x, 0, 9, ALL);
        Land.letter(x, 0, 1);
        Land.letter(x, 1, 2);
        yes("late", x.late(0, 0, 300));
        Land.upTo(x, 309);
        due("not gone", x.run(0, 0, 2), NONE);
        x.minutes(1);
        due("gone at 310", x.run(0, 0, 2), 0);
        Land.upTo(x, 330);
        due("came at 320", x.lead(0, 2, 0), 320);
        due("went at 325", x.lead(1, 1, 0), 325);
        due("came at 330", x.lead(1, 2, 0), 330);
        due("the table is as it was told", x.stopOf(0, 1, 1), 20);
    }

    /** "What would be behind MINUTE 10079 is not": a coming. */
    private static void comesBehindTheLastMinute() {
        for (int late = 0; late <= 1; late++) {
            InlandMails x = Land.of(2);
            Land.train(x, 0, 1400, 1400, 1, 1439, 1439);
            Land.sorterIn(x, 0, 1, ALL);
            Land.upTo(x, 6 * 1440);
            yes("late", x.late(0, 6, late));
            int l = Land.letter(x, 0, 1);
            due("comes at " + (10079 + late), x.way(0, 6 * 1440, 1, 0), late == 0 ? 10079 : NONE);
            due("the sum", x.whatIf(NONE, 0, 0), 10079 + late);
            Land.upTo(x, 10079);
            due("given, or still in its hole", x.of(l, 7), late == 0 ? 2 : 0);
        }
    }

    /** The same of a going, and of a letter that is aboard by then. */
    private static void goesBehindTheLastMinute() {
        InlandMails x = Land.of(3);
        Land.train(x, 0, 2399, 2399, 1, 2400, 2400);
        Land.train(x, 2, 1300, 1300, 0, 1400, 1400, 1, 1500, 1500);
        Land.upTo(x, 6 * 1440);
        due("day 6's run goes behind it", x.way(0, 6 * 1440, 1, 2), 0);
        due("day 5's is the last", x.way(0, 6 * 1440, 1, 3), 5);
        Land.upTo(x, 5 * 1440 + 2400);
        due("no more", x.way(0, 5 * 1440 + 2400, 1, 0), NONE);
        int l = Land.letter(x, 2, 0);
        Land.upTo(x, 10079);
        due("raw for stop 1, carried on to what is not", x.of(l, 7), 1);
        due("aboard for ever", x.of(l, 8), 61);
        due("neither given nor dead", x.whatIf(NONE, 0, 0), 10080);
        due("not left", x.of(l, 12), 0);
        due("gone from its first stops", x.run(1, 6, 2), 1);
        due("rob between them and what is not", x.rob(1, 6), 0);
    }

    /** Promise 9: "FAST STOP i." */
    private static void missedFast() {
        InlandMails x = Land.of(3);
        x.train();
        x.stop(0, 0, 10, 10, false);
        x.stop(0, 1, 20, 20, true);
        x.stop(0, 2, 30, 30, false);
        no("not fast, though it goes as it comes", x.miss(0, 0, 0));
        yes("fast", x.miss(0, 0, 1));
        for (int i : new int[] {LEAST, -1, 3, 7, 8, MOST}) {
            no("no stop " + i, x.miss(0, 0, i));
        }
        for (int t : new int[] {LEAST, -1, 1, 10, MOST}) {
            no("no train " + t, x.miss(t, 0, 1));
        }
        for (int d : new int[] {LEAST, -1, 7, MOST}) {
            no("no day " + d, x.miss(0, d, 1));
        }
        x.train();
        no("without stops", x.miss(1, 0, 0));
    }

    /** Promise 9: "Not the last one." */
    private static void missedNotTheLast() {
        InlandMails x = Land.of(2);
        x.train();
        x.stop(0, 0, 10, 10, true);
        no("the first is the last yet", x.miss(0, 0, 0));
        x.stop(0, 1, 20, 20, true);
        yes("it is no more", x.miss(0, 0, 0));
        no("the last", x.miss(0, 0, 1));
        for (int i = 2; i < 8; i++) {
            x.stop(0, i % 2, 10 * i + 10, 10 * i + 10, true);
        }
        yes("the seventh", x.miss(0, 0, 6));
        no("the eighth is the last", x.miss(0, 0, 7));
    }

    /** Promise 9: "It was told." */
    private static void missedTold() {
        InlandMails x = Land.of(2);
        x.train();
        x.stop(0, 0, 10, 10, true);
        x.stop(0, 1, 20, 20, true);
        x.stop(0, 0, 30, 30, true);
        yes("told", x.miss(0, 6, 0));
        no("told already", x.miss(0, 6, 0));
        yes("another stop", x.miss(0, 6, 1));
        yes("another day", x.miss(0, 5, 0));
        yes("late", x.late(0, 6, 9));
        no("told already, though it is late now", x.miss(0, 6, 0));
    }

    /** Promise 9: "Or the RUN has come there." */
    private static void missedComeThere() {
        InlandMails x = Land.of(2);
        x.train();
        x.stop(0, 0, 0, 0, true);
        x.stop(0, 1, 20, 20, true);
        x.stop(0, 0, 30, 30, true);
        x.stop(0, 1, 40, 40, true);
        no("it comes there in minute 0", x.miss(0, 0, 0));
        x.minutes(19);
        yes("a minute ahead", x.miss(0, 0, 1));
        x.minutes(11);
        no("as it comes", x.miss(0, 0, 2));
        yes("late on the next day", x.late(0, 1, 5));
        Land.upTo(x, 1440 + 24);
        yes("a minute ahead of its coming late", x.miss(0, 1, 1));
        Land.upTo(x, 1440 + 35);
        no("as it comes late", x.miss(0, 1, 2));
        x.minutes(1);
        no("behind it", x.miss(0, 1, 2));
    }

    /** Promise 10: "So many MINUTES (1 .. 3000) go by." */
    private static void soManyMinutes() {
        InlandMails x = new InlandMails();
        for (int n : new int[] {LEAST, LEAST + 1, -3000, -1, 0, 3001, 10079, MOST}) {
            due("minutes(" + n + ") at 0", x.minutes(n), NONE);
        }
        due("one", x.minutes(1), 1);
        due("3000", x.minutes(3000), 3001);
        for (int n : new int[] {LEAST, -3001, -1, 0, 3001, MOST - 3001, MOST - 3000, MOST}) {
            due("minutes(" + n + ") at 3001", x.minutes(n), NONE);
        }
        due("NOW", x.look(0), 3001);
    }

    /** Promise 10: "Or beyond 10079." */
    private static void beyondTheLastMinute() {
        InlandMails x = new InlandMails();
        Land.upTo(x, 7079);
        due("3000 more", x.minutes(3000), 10079);
        due("one more", x.minutes(1), NONE);
        due("3000 more", x.minutes(3000), NONE);
        InlandMails y = new InlandMails();
        Land.upTo(y, 7080);
        due("3000 more", y.minutes(3000), NONE);
        due("NOW", y.look(0), 7080);
        due("2999 more", y.minutes(2999), 10079);
    }

    /** Promise 10: "What happens in MINUTES behind that of now, up to the new one, it too, happens." */
    private static void upToTheNewOne() {
        InlandMails x = Land.of(2);
        Land.train(x, 0, 0, 0, 1, 10, 10);
        Land.train(x, 0, 30, 30, 1, 40, 40);
        int l = Land.letter(x, 0, 1);
        due("minute 0 is that of now: no going in it is to come", x.minutes(29), 29);
        due("so it lies there", x.of(l, 7), 0);
        due("30 is the new one", x.minutes(1), 30);
        due("so it went", x.of(l, 7), 1);
        int m = Land.letter(x, 0, 1);
        due("39", x.minutes(9), 39);
        due("not come yet", x.of(l, 7), 1);
        due("40", x.minutes(1), 40);
        due("come", x.of(l, 7), 2);
        due("posted as it went", x.of(m, 7), 0);
        Land.upTo(x, 1440);
        due("the first minute of the next day", x.of(m, 8), 10);
        due("aboard", x.of(m, 7), 1);
    }

    /** Promise 11: "NONE for another what." */
    private static void whatIsLookedAt() {
        InlandMails x = Land.busy();
        int[] want = {Land.BUSY, 6, 4, 10, 3, 2};
        for (int what = 0; what <= 5; what++) {
            due("look(" + what + ")", x.look(what), want[what]);
        }
        int[] inStates = {2, 2, 1, 2, 1, 1, 1};
        for (int s = 0; s <= 6; s++) {
            due("in state " + s, x.look(10 + s), inStates[s]);
        }
        for (int what : new int[] {LEAST, -1, 6, 7, 8, 9, 17, 18, 100, MOST}) {
            due("look(" + what + ")", x.look(what), NONE);
        }
    }
}
