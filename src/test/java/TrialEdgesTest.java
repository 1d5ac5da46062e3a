/**
 * Sections 4 to 6, and promises 31 to 36, 38 and 39: each sentence that names an edge, with what lies
 * on it and what lies just beyond. The sentence stands above its test.
 */
public final class TrialEdgesTest {
    private static final Due DUE = new Due("TrialEdgesTest");
    private static final int NONE = InlandMails.NONE;
    private static final int LEAST = Integer.MIN_VALUE;
    private static final int MOST = Integer.MAX_VALUE;
    private static final int ALL = 4095;

    public static void main(String[] args) {
        robbedBetween();
        robbedLate();
        robbedOfStops();
        sortedAreGone();
        twentyRobberies();
        robberyOfNone();
        robberyKeeps();
        setOfNone();
        showsDownwards();
        gainsFromLowToHigh();
        seenRefused();
        seenOfNone();
        clockOfNone();
        gainStaysAsItIsSet();
        trueFromItsSetting();
        trueOfNone();
        trueAtMost();
        whatIfEdges();
        whatIfTooLate();
        whatIfAsItIs();
        whatIfOfStates();
        whatIfUpToTheLast();
        seatsOfNone();
        seatsWhats();
        seatsOfTwoAlone();
        seatsTheLesserFirst();
        seatsOfManyTrains();
        seatsWithNoneGiven();
        DUE.close();
    }

    private static void due(String call, long got, long want) {
        DUE.is(call, got, want);
    }

    private static void yes(String call, boolean got) {
        DUE.is(call, got, true);
    }

    private static void no(String call, boolean got) {
        DUE.is(call, got, false);
    }

    /** "While it is between a STOP's GOES and the next COMES (as things are NOW, GOES gone by, COMES not yet)." */
    private static void robbedBetween() {
        int[] minutes = {0, 9, 10, 11, 19, 20, 24, 25, 29, 30, 35, 40, 1440};
        boolean[] may = {false, false, true, true, true, false, false, true, true, false, false, false, false};
        for (int k = 0; k < minutes.length; k++) {
            InlandMails x = Land.of(2);
            Land.train(x, 0, 5, 10, 1, 20, 25, 0, 30, 40);
            Land.upTo(x, minutes[k]);
            due("at " + minutes[k], x.rob(0, 0), may[k] ? 0 : NONE);
            due("a ROBBERY, or none", x.robbery(0, 1), may[k] ? minutes[k] : NONE);
        }
    }

    /** The same of a run that is LATE, and of one that goes on behind midnight. */
    private static void robbedLate() {
        InlandMails x = Land.of(2);
        Land.train(x, 0, 5, 10, 1, 1500, 1500);
        yes("late", x.late(0, 0, 300));
        int[] minutes = {10, 309, 310, 1439, 1440, 1449, 1450, 1799, 1800, 2939, 2940};
        int[] first = {NONE, NONE, 0, 1, 2, 3, 4, 6, NONE, NONE, NONE};
        int[] second = {NONE, NONE, NONE, NONE, NONE, NONE, 5, 7, 8, 9, NONE};
        for (int k = 0; k < minutes.length; k++) {
            Land.upTo(x, minutes[k]);
            due("run (0, 0) at " + minutes[k], x.rob(0, 0), first[k]);
            due("run (0, 1) at " + minutes[k], x.rob(0, 1), second[k]);
        }
    }

    /** Promise 31: "NONE ... if one can't be": no such run, or one that goes nowhere. */
    private static void robbedOfStops() {
        InlandMails x = Land.of(2);
        x.train();
        Land.train(x, 0, 0, 10);
        Land.train(x, 0, 0, 0, 1, 9, 9);
        due("between its stops in minute 0", x.rob(2, 0), 0);
        due("nothing is aboard", x.robbery(0, 2), 0);
        x.minutes(5);
        due("without stops", x.rob(0, 0), NONE);
        due("with one stop", x.rob(1, 0), NONE);
        due("between its stops", x.rob(2, 0), 1);
        for (int t : new int[] {LEAST, -1, 3, 10, MOST}) {
            due("train " + t, x.rob(t, 0), NONE);
        }
        for (int d : new int[] {LEAST, -1, 7, MOST}) {
            due("day " + d, x.rob(2, d), NONE);
        }
        x.minutes(10);
        due("gone by", x.rob(1, 0), NONE);
    }

    /** "All SORTED LETTERS aboard are gone for good; raw ones stay." */
    private static void sortedAreGone() {
        InlandMails x = Land.busy();
        due("rob(0, 2)", x.rob(0, 2), 3);
        due("the sorted one", x.of(8, 7), 4);
        due("the raw one", x.of(7, 7), 1);
        due("it alone", x.robbery(3, 2), 1);
        due("it", x.robbery(3, 10), 8);
        due("no sorted one aboard", x.run(0, 2, 1), 0);
        due("one raw one", x.run(0, 2, 0), 1);
        Land.upTo(x, 10079);
        due("gone for good", x.of(8, 7), 4);
        due("it is told to the end", x.of(8, 8), 20);
        due("no further row", x.lead(8, 3, 0), NONE);
    }

    /** Promise 31: "or there were 20." */
    private static void twentyRobberies() {
        InlandMails x = Land.of(2);
        Land.train(x, 0, 10, 10, 1, 100, 100);
        Land.sorterIn(x, 0, 9, ALL);
        Land.letter(x, 0, 1);
        Land.upTo(x, 10);
        for (int k = 0; k < 20; k++) {
            due("none such yet", x.robbery(k, 0), NONE);
            due("rob", x.rob(0, 0), k);
            due("letters", x.robbery(k, 2), k == 0 ? 1 : 0);
            x.minutes(1);
        }
        due("the 21st", x.rob(0, 0), NONE);
        due("is none", x.robbery(20, 0), NONE);
        due("the 20th is", x.robbery(19, 1), 29);
        Land.upTo(x, 1450);
        due("nor on another day", x.rob(0, 1), NONE);
    }

    /** Promise 32: "NONE if there is none such, or another what." */
    private static void robberyOfNone() {
        InlandMails x = Land.busy();
        for (int k : new int[] {LEAST, -1, 3, 19, 20, MOST}) {
            for (int what = 0; what < 12; what++) {
                due("robbery " + k, x.robbery(k, what), NONE);
            }
        }
        for (int what : new int[] {LEAST, LEAST + 9, -10, -1, 4, 9, 11, 12, MOST}) {
            due("what " + what, x.robbery(0, what), NONE);
        }
        for (int what : new int[] {LEAST, -1, 4, 9, 10, 11, MOST}) {
            due("of nothing, what " + what, x.robbery(1, what), NONE);
        }
    }

    /** "A ROBBERY keeps what was taken: its LETTERS, the CHARGES OWED of them." */
    private static void robberyKeeps() {
        InlandMails x = Land.of(2);
        Land.train(x, 0, 10, 10, 1, 100, 100);
        Land.sorterIn(x, 0, 99, ALL);
        Land.act(x, 0, "charge 9999 * 9999; ship 9999; sign 9999;");
        for (int l = 0; l < 120; l++) {
            x.post(l % 2 == 0 ? 3 : 4, 0, 1, 1, 1, 1);
        }
        Land.upTo(x, 10);
        due("rob", x.rob(0, 0), 0);
        Land.upTo(x, 10079);
        due("all letters", x.robbery(0, 2), 120);
        due("OWED alone", x.robbery(0, 3), 60 * (99999 + 9999));
        for (int l = 0; l < 120; l++) {
            due("by numbers", x.robbery(0, 10 + l), l);
        }
        due("no more", x.robbery(0, 130), NONE);
    }

    /** Promise 33: "false if there is none such." */
    private static void setOfNone() {
        InlandMails x = Land.of(1);
        for (int t = 0; t < 10; t++) {
            no("none such yet", x.set(t));
            due("train", x.train(), t);
            due("set at 0 at first", x.clock(t, 2), 0);
            x.minutes(1);
            yes("set", x.set(t));
            due("NOW", x.clock(t, 2), t + 1);
        }
        for (int t : new int[] {LEAST, -2, -1, 10, MOST}) {
            no("train " + t, x.set(t));
        }
    }

    /** "It shows the MINUTE at which it was set and, downwards, the minutes since with what it gained." */
    private static void showsDownwards() {
        for (int minutes : new int[] {59, 60, 61, 3599, 3600, 3601}) {
            for (int gain : new int[] {-60, -1, 0, 1, 59, 60}) {
                InlandMails x = Land.of(1);
                x.train();
                x.minutes(100);
                x.set(0);
                for (int n = minutes; n > 0; n -= Math.min(n, 3000)) {
                    x.minutes(Math.min(n, 3000));
                }
                int shown = minutes + Math.floorDiv(minutes * gain, 3600);
                String call = "gains " + gain + " in " + minutes;
                yes(call, x.seen(0, 100 + shown));
                yes(call + " is not less", x.clock(0, 0) <= gain);
                yes(call + " is not more", x.clock(0, 1) >= gain);
                no(call + ": a minute more", x.seen(0, 101 + shown));
                no(call + ": a minute less", x.seen(0, 99 + shown));
            }
        }
    }

    /** "From low to high (-60 .. 60 at first)": what stays by each sight. */
    private static void gainsFromLowToHigh() {
        int[] shown = {539, 540, 541, 549, 550, 551, 558, 559, 560};
        int[] low = {-60, -60, -58, -6, 0, 7, 53, 59, -60};
        int[] high = {60, -59, -53, -1, 6, 13, 58, 60, 60};
        for (int k = 0; k < shown.length; k++) {
            InlandMails x = Land.of(1);
            x.train();
            x.minutes(550);
            due("low at first", x.clock(0, 0), -60);
            due("high at first", x.clock(0, 1), 60);
            DUE.is("seen " + shown[k], x.seen(0, shown[k]), shown[k] >= 540 && shown[k] <= 559);
            due("low, seen " + shown[k], x.clock(0, 0), low[k]);
            due("high, seen " + shown[k], x.clock(0, 1), high[k]);
        }
    }

    /** "Of all whole numbers of seconds ... those stay ... (if none is left, the sight is refused)." */
    private static void seenRefused() {
        InlandMails x = Land.of(1);
        x.train();
        no("another minute at its setting", x.seen(0, 1));
        yes("its own", x.seen(0, 0));
        due("all stay: low", x.clock(0, 0), -60);
        due("all stay: high", x.clock(0, 1), 60);
        x.minutes(3000);
        x.minutes(600);
        yes("60 minutes gained", x.seen(0, 3660));
        due("60 alone", x.clock(0, 0), 60);
        no("one less", x.seen(0, 3659));
        no("one more", x.seen(0, 3661));
        due("60 alone", x.clock(0, 0), 60);
        due("60 alone", x.clock(0, 1), 60);
        yes("the same once more", x.seen(0, 3660));
        x.minutes(1);
        yes("a minute on", x.seen(0, 3661));
        x.minutes(59);
        no("an hour on without gain", x.seen(0, 3720));
        yes("an hour on", x.seen(0, 3721));
    }

    /** Promise 34: "false ... if one can't be." */
    private static void seenOfNone() {
        InlandMails x = Land.of(1);
        no("no train", x.seen(0, 0));
        x.train();
        for (int t : new int[] {LEAST, -1, 1, 10, MOST}) {
            no("train " + t, x.seen(t, 0));
        }
        for (int m : new int[] {LEAST, -1, 10080, MOST}) {
            no("minute " + m, x.seen(0, m));
        }
        x.minutes(1);
        yes("minute 0, a minute on, by a clock that loses", x.seen(0, 0));
        x.train();
        Land.upTo(x, 9920);
        no("what it would show is no MINUTE", x.seen(1, 10080));
        yes("the last MINUTE: it gained 159", x.seen(1, 10079));
        due("58 seconds an hour", x.clock(1, 0), 58);
        due("58 seconds an hour", x.clock(1, 1), 58);
    }

    /** Promise 35: "NONE - 999 if there is none such, or another what." */
    private static void clockOfNone() {
        InlandMails x = Land.of(1);
        due("no train", x.clock(0, 0), -1000);
        x.train();
        int[] want = {-60, 60, 0};
        for (int what = 0; what < 3; what++) {
            due("clock(0, " + what + ")", x.clock(0, what), want[what]);
            for (int t : new int[] {LEAST, -1, 1, 10, MOST}) {
                due("train " + t, x.clock(t, what), -1000);
            }
        }
        for (int what : new int[] {LEAST, -1, 3, 10, MOST}) {
            due("another what", x.clock(0, what), -1000);
        }
    }

    /** Promise 33: "(What is known of its gaining stays)." */
    private static void gainStaysAsItIsSet() {
        InlandMails x = Land.of(1);
        x.train();
        x.minutes(3000);
        yes("seen", x.seen(0, 3025));
        due("low", x.clock(0, 0), 30);
        due("high", x.clock(0, 1), 31);
        yes("set", x.set(0));
        due("low stays", x.clock(0, 0), 30);
        due("high stays", x.clock(0, 1), 31);
        x.minutes(3000);
        due("25 or 25.8 gained since: least", x.trueMinute(0, 6025, 0), 6000);
        no("as if it were not set", x.seen(0, 6050));
        yes("since it was set", x.seen(0, 6025));
    }

    /** Promise 36: "(From that on at which it was set ...); NONE if there is none." */
    private static void trueFromItsSetting() {
        InlandMails x = Land.of(1);
        x.train();
        x.minutes(500);
        x.set(0);
        for (int m : new int[] {0, 1, 498, 499}) {
            due(m + " shown: least", x.trueMinute(0, m, 0), NONE);
            due(m + " shown: greatest", x.trueMinute(0, m, 1), NONE);
        }
        due("500 shown: least", x.trueMinute(0, 500, 0), 500);
        due("500 shown: greatest, by who loses", x.trueMinute(0, 500, 1), 501);
        due("501 shown: least", x.trueMinute(0, 501, 0), 501);
        due("501 shown: greatest, by who loses", x.trueMinute(0, 501, 1), 502);
    }

    /** Promise 36: "NONE if ... one can't be, or another what." */
    private static void trueOfNone() {
        InlandMails x = Land.of(1);
        due("no train", x.trueMinute(0, 0, 0), NONE);
        x.train();
        for (int what = 0; what < 2; what++) {
            for (int t : new int[] {LEAST, -1, 1, 10, MOST}) {
                due("train " + t, x.trueMinute(t, 100, what), NONE);
            }
            for (int m : new int[] {LEAST, -1, 10080, MOST}) {
                due("minute " + m, x.trueMinute(0, m, what), NONE);
            }
        }
        for (int what : new int[] {LEAST, -1, 2, 10, MOST}) {
            due("what " + what, x.trueMinute(0, 100, what), NONE);
        }
    }

    /** Promise 36: "10079 at most." */
    private static void trueAtMost() {
        InlandMails x = Land.of(1);
        x.train();
        due("10079 shown: greatest", x.trueMinute(0, 10079, 1), 10079);
        due("9911 shown: greatest, by who loses 168", x.trueMinute(0, 9911, 1), 10079);
        due("9910 shown: greatest", x.trueMinute(0, 9910, 1), 10078);
        Land.upTo(x, 3600);
        yes("an hour lost", x.seen(0, 3540));
        due("9911 shown: greatest", x.trueMinute(0, 9911, 1), 10079);
        due("9912 shown: none", x.trueMinute(0, 9912, 0), NONE);
        due("9912 shown: none", x.trueMinute(0, 9912, 1), NONE);
        due("10079 shown: none", x.trueMinute(0, 10079, 0), NONE);
        Land.upTo(x, 10079);
        x.set(0);
        due("set at the last: least", x.trueMinute(0, 10079, 0), 10079);
        due("set at the last: greatest", x.trueMinute(0, 10079, 1), 10079);
        due("set at the last: no other", x.trueMinute(0, 10078, 1), NONE);
    }

    /** Promise 38: "NONE if one can't be." */
    private static void whatIfEdges() {
        InlandMails x = Land.of(2);
        Land.train(x, 0, 1139, 1139, 1, 1140, 1140);
        x.train();
        Land.letter(x, 0, 1);
        due("late by 0", x.whatIf(0, 0, 0), 1140);
        due("late by 300", x.whatIf(0, 0, 300), 1440);
        for (int n : new int[] {LEAST, -1, 301, MOST}) {
            due("late by " + n, x.whatIf(0, 0, n), NONE);
        }
        for (int t : new int[] {LEAST, -2, 2, 10, MOST}) {
            due("train " + t, x.whatIf(t, 0, 5), NONE);
        }
        for (int d : new int[] {LEAST, -1, 7, MOST}) {
            due("day " + d, x.whatIf(0, d, 5), NONE);
        }
        due("without stops", x.whatIf(1, 0, 5), NONE);
        due("not LATE by any of it", x.run(0, 0, 4), 0);
        due("as it is", x.whatIf(NONE, 0, 0), 1140);
    }

    /** Promise 38: "Or it is too late to tell." */
    private static void whatIfTooLate() {
        InlandMails x = Land.of(2);
        Land.train(x, 0, 0, 0, 1, 20, 20);
        Land.train(x, 0, 10, 10, 1, 20, 20);
        Land.letter(x, 0, 1);
        due("GOES 0 is NOW", x.whatIf(0, 0, 5), NONE);
        due("GOES 10 is not", x.whatIf(1, 0, 5), 25);
        x.minutes(9);
        due("a minute ahead", x.whatIf(1, 0, 5), 25);
        yes("late by 7", x.late(1, 0, 7));
        due("instead of 7", x.whatIf(1, 0, 5), 25);
        due("as it is", x.whatIf(NONE, 0, 0), 27);
        x.minutes(1);
        due("GOES without being LATE is NOW", x.whatIf(1, 0, 5), NONE);
        due("as it is", x.whatIf(NONE, 0, 0), 27);
        due("another day's", x.whatIf(1, 1, 5), 27);
    }

    /** Promise 38: "(t NONE: as it is.)" */
    private static void whatIfAsItIs() {
        InlandMails x = Land.busy();
        int sum = x.whatIf(NONE, 0, 0);
        for (int d : new int[] {LEAST, -1, 0, 6, 7, MOST}) {
            for (int n : new int[] {LEAST, -1, 0, 300, 301, MOST}) {
                due("whatever d and n", x.whatIf(NONE, d, n), sum);
            }
        }
        due("told as it is", x.whatIf(0, 3, 7), sum);
        due("nothing at all", new InlandMails().whatIf(NONE, 0, 0), 0);
    }

    /** "10080 for each that is not (nor DEAD, ROBBED, burnt, found)." */
    private static void whatIfOfStates() {
        InlandMails x = Land.busy();
        due("two without a way, one given, one aboard sorted, one raw, back from town 3 the next day",
            x.whatIf(NONE, 0, 0), 2 * 10080 + 180 + 3060 + 4470);
        InlandMails twin = Land.busy();
        Land.upTo(twin, 10079);
        int sum = 0;
        for (int l = 0; l < 10; l++) {
            int state = twin.of(l, 7);
            int rows = 0;
            while (twin.lead(l, rows + 1, 0) != NONE) {
                rows++;
            }
            sum += state == 2 ? twin.lead(l, rows, 0) : state < 2 ? 10080 : 0;
        }
        due("as it goes on in a twin", x.whatIf(NONE, 0, 0), sum);
        due("behind it the same", twin.whatIf(NONE, 0, 0), sum);
    }

    /** "All goes on from NOW to MINUTE 10079." */
    private static void whatIfUpToTheLast() {
        InlandMails x = Land.of(2);
        Land.train(x, 0, 1400, 1400, 1, 1439, 1439);
        Land.upTo(x, 6 * 1440);
        Land.letter(x, 0, 1);
        due("given in the last minute", x.whatIf(NONE, 0, 0), 10079);
        due("late by 0", x.whatIf(0, 6, 0), 10079);
        due("late by 1: not given", x.whatIf(0, 6, 1), 10080);
        Land.upTo(x, 10079);
        due("at the last minute itself", x.whatIf(NONE, 0, 0), 10079);
        Land.letter(x, 0, 1);
        due("posted then", x.whatIf(NONE, 0, 0), 10079 + 10080);
        for (int n = 2; n < 120; n++) {
            Land.letter(x, 0, 1);
        }
        due("as many as may be", x.whatIf(NONE, 0, 0), 10079 + 119 * 10080);
    }

    /** Promise 39: "NONE without TRAINS or SORTERS." */
    private static void seatsOfNone() {
        for (int what : new int[] {0, 10, 11}) {
            InlandMails x = Land.of(2);
            due("without both", x.seats(what), NONE);
            x.sorter(1, ALL);
            x.sorter(1, ALL);
            due("without TRAINS", x.seats(what), NONE);
            x.train();
            due("with both", x.seats(what), 0);
            InlandMails y = Land.of(2);
            y.train();
            due("without SORTERS", y.seats(what), NONE);
            y.sorter(1, ALL);
            due("with one of each", y.seats(what), what == 11 ? NONE : 0);
        }
    }

    /** Promise 39: "Or for another what." */
    private static void seatsWhats() {
        InlandMails x = Land.busy();
        for (int what : new int[] {LEAST, -1, 1, 2, 9, 13, 17, 18, 20, MOST}) {
            due("what " + what, x.seats(what), NONE);
        }
        yes("the sum", x.seats(0) <= x.whatIf(NONE, 0, 0));
        yes("sorter 0", x.seats(10) >= 0 && x.seats(10) <= 3);
        yes("sorter 1", x.seats(11) >= 0 && x.seats(11) <= 3);
    }

    /** "All ways to give SORTERS (the first two) each a TRAIN, others as they sit." */
    private static void seatsOfTwoAlone() {
        for (int third = 0; third <= 2; third++) {
            InlandMails x = Land.of(4);
            for (int t = 0; t < 3; t++) {
                Land.train(x, 0, 10, 10, 1 + t, 20, 20, 0, 30, 30);
                Land.letter(x, 0, 1 + t);
            }
            x.sorter(1, ALL);
            x.sorter(1, ALL);
            Land.sorterIn(x, third, 1, ALL);
            due("all three sorted", x.seats(0), 60);
            due("sorter 0, the third in " + third, x.seats(10), third == 0 ? 1 : 0);
            due("sorter 1, the third in " + third, x.seats(11), third == 2 ? 1 : 2);
            x.seat(2, NONE);
            yes("the third in none: one is never sorted", x.seats(0) > 10080);
            due("sorter 0 in the first", x.seats(10), 0);
            due("sorter 1 in the second", x.seats(11), 1);
        }
    }

    /** "Of several the first by TRAINS of SORTERS 0, 1 (the lesser first)." */
    private static void seatsTheLesserFirst() {
        InlandMails x = Land.of(4);
        for (int t = 0; t < 3; t++) {
            Land.train(x, 0, 10 + 100 * t, 10 + 100 * t, 1 + t, 20 + 100 * t, 20 + 100 * t, 0, 30 + 100 * t, 30 + 100 * t);
        }
        x.sorter(1, 2 + 4 + 8);
        x.sorter(1, 2 + 4 + 8);
        x.seat(0, 2);
        x.seat(1, 1);
        due("no letters: any will do", x.seats(0), 0);
        due("sorter 0", x.seats(10), 0);
        due("sorter 1", x.seats(11), 0);
        Land.letter(x, 0, 3);
        due("one letter for train 2", x.seats(0), 220);
        due("sorter 0 in the least", x.seats(10), 0);
        due("sorter 1 in it", x.seats(11), 2);
        Land.letter(x, 0, 2);
        due("one more for train 1", x.seats(0), 220 + 120);
        due("sorter 0 in the lesser", x.seats(10), 1);
        due("sorter 1 in the other", x.seats(11), 2);
    }

    /** As many trains as may be: the best seats are the last. */
    private static void seatsOfManyTrains() {
        InlandMails x = Land.of(4);
        for (int t = 0; t < 8; t++) {
            x.train();
        }
        Land.train(x, 0, 10, 10, 1, 20, 20, 0, 30, 30);
        Land.train(x, 0, 10, 10, 2, 20, 20, 0, 30, 30);
        x.sorter(1, 4);
        x.sorter(1, 2);
        Land.letter(x, 0, 1);
        Land.letter(x, 0, 2);
        due("both sorted", x.seats(0), 40);
        due("sorter 0, who knows town 2", x.seats(10), 9);
        due("sorter 1, who knows town 1", x.seats(11), 8);
        due("nothing of it is done", x.whatIf(NONE, 0, 0), 2 * 10080);
    }

    /** "10080 for each that is not": as many LETTERS as may be, none of which is ever given. */
    private static void seatsWithNoneGiven() {
        InlandMails x = Land.of(2);
        Land.train(x);
        Land.train(x);
        x.sorter(1, 3);
        x.sorter(1, 3);
        for (int l = 0; l < 120; l++) {
            Land.letter(x, 0, 1);
        }
        due("all goes on as it is", x.whatIf(NONE, 0, 0), 120 * 10080);
        due("the least sum", x.seats(0), 120 * 10080);
        due("sorter 0 in the first", x.seats(10), 0);
        due("sorter 1 in the first", x.seats(11), 0);
    }
}
