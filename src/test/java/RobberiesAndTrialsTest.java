/** Promises 31 to 39 by hand: ordinary inputs, the edges that the document names, wrong inputs. */
public final class RobberiesAndTrialsTest {
    private static final Due DUE = new Due("RobberiesAndTrialsTest");
    private static final int NONE = InlandMails.NONE;
    private static final int ALL = 4095;

    public static void main(String[] args) {
        rob();
        robEdges();
        robbery();
        robberyOfOthers();
        setAndSeen();
        seenOnceMore();
        clockRunsBackNever();
        trueMinute();
        trueMinuteSkipped();
        tried();
        triedFranks();
        whatIf();
        whatIfStates();
        whatIfAboard();
        whatIfDoesNothing();
        seats();
        seatsTies();
        seatsApart();
        seatsAnew();
        seatsOfTwo();
        seatsInANewTrain(0);
        seatsInANewTrain(1);
        DUE.close();
    }

    private static void due(String call, long got, long want) {
        DUE.is(call, got, want);
    }

    private static void yes(String call, boolean got) {
        DUE.is(call, got, true);
    }

    private static void no(String call, boolean got) {
        DUE.is(call, got, false);
    }

    /** Promise 31: sorted letters are gone, raw ones stay. */
    private static void rob() {
        InlandMails x = Land.of(3);
        Land.train(x, 0, 10, 10, 1, 20, 25, 2, 30, 30);
        Land.sorterIn(x, 0, 9, 2);
        Land.letter(x, 0, 1);
        Land.letter(x, 0, 2);
        x.minutes(15);
        due("rob(0, 0)", x.rob(0, 0), 0);
        due("robbed", x.of(0, 7), 4);
        due("of the run", x.of(0, 8), 0);
        due("at", x.lead(0, 2, 0), 15);
        due("robbed", x.lead(0, 2, 1), 4);
        due("sorted aboard no more", x.of(0, 10), 0);
        due("for no stop", x.of(0, 11), NONE);
        due("the raw one stays", x.of(1, 7), 1);
        due("sorted aboard", x.run(0, 0, 1), 0);
        due("raw aboard", x.run(0, 0, 0), 1);
        no("robbed: nobody can't be told", x.nobody(0));
        due("once more, though nothing is there", x.rob(0, 0), 1);
        x.minutes(3000);
        due("gone for good", x.of(0, 7), 4);
        due("the raw one is given", x.of(1, 7), 2);
    }

    /** Only between a stop's GOES, gone by, and the next COMES, not yet; at most 20. */
    private static void robEdges() {
        InlandMails x = Land.of(3);
        Land.train(x, 0, 10, 10, 1, 20, 25, 2, 30, 40);
        x.train();
        x.late(0, 1, 100);
        int[] minutes = {9, 10, 19, 20, 24, 25, 29, 30, 40, 45};
        int[] want = {NONE, 0, 1, NONE, NONE, 2, 3, NONE, NONE, NONE};
        for (int k = 0; k < minutes.length; k++) {
            Land.upTo(x, minutes[k]);
            due("rob at " + minutes[k], x.rob(0, 0), want[k]);
        }
        due("another day", x.rob(0, 1), NONE);
        due("day 7", x.rob(0, 7), NONE);
        due("day -1", x.rob(0, -1), NONE);
        due("train 2", x.rob(2, 0), NONE);
        due("train -1", x.rob(-1, 0), NONE);
        due("a train without stops", x.rob(1, 0), NONE);
        Land.upTo(x, 1450);
        due("late, not gone yet", x.rob(0, 1), NONE);
        Land.upTo(x, 1550);
        for (int k = 4; k < 20; k++) {
            due("rob", x.rob(0, 1), k);
        }
        due("the 21st", x.rob(0, 1), NONE);
    }

    /** Promise 32. */
    private static void robbery() {
        InlandMails x = Land.of(2);
        x.train();
        Land.train(x, 0, 10, 10, 1, 20, 20);
        Land.sorterIn(x, 1, 9, ALL);
        Land.act(x, 0, "charge sheets;");
        x.minutes(1000);
        x.post(0, 0, 1, 3, 0, 0);
        x.post(0, 1, 0, 9, 0, 0);
        x.post(1, 0, 1, 5, 0, 0);
        x.post(3, 0, 1, 7, 0, 0);
        Land.upTo(x, 1455);
        due("rob(1, 1)", x.rob(1, 1), 0);
        x.minutes(1);
        due("rob once more", x.rob(1, 1), 1);
        int[] want = {11, 1455, 3, 10};
        int[] empty = {11, 1456, 0, 0};
        for (int what = 0; what < 4; what++) {
            due("robbery(0, " + what + ")", x.robbery(0, what), want[what]);
            due("robbery(1, " + what + ")", x.robbery(1, what), empty[what]);
        }
        due("its first letter", x.robbery(0, 10), 0);
        due("its second", x.robbery(0, 11), 2);
        due("its third", x.robbery(0, 12), 3);
        due("its fourth", x.robbery(0, 13), NONE);
        due("robbery(1, 10)", x.robbery(1, 10), NONE);
        due("robbery(0, 4)", x.robbery(0, 4), NONE);
        due("robbery(0, 9)", x.robbery(0, 9), NONE);
        due("robbery(0, -1)", x.robbery(0, -1), NONE);
        due("robbery(2, 0)", x.robbery(2, 0), NONE);
        due("robbery(-1, 0)", x.robbery(-1, 0), NONE);
        due("OUT keeps them", x.account(0, 1, 0), 10);
        due("IN does not", x.account(0, 1, 1), 0);
        due("they differ", x.account(0, 1, 2), 2);
    }

    /** Each robbery has its own letters, also of one run. */
    private static void robberyOfOthers() {
        InlandMails x = Land.of(4);
        Land.train(x, 0, 10, 10, 1, 20, 20, 2, 30, 30);
        Land.train(x, 3, 10, 10, 2, 30, 30);
        Land.sorterIn(x, 0, 9, ALL);
        Land.sorterIn(x, 1, 9, ALL);
        Land.act(x, 0, "charge weight;");
        int[][] told = {{1, 2}, {3, 2}, {0, 2}, {1, 2}, {3, 2}, {0, 2}};
        for (int l = 0; l < told.length; l++) {
            x.post(0, told[l][0], told[l][1], 1, 1 << l, 0);
        }
        x.minutes(10);
        due("the first run", x.rob(0, 0), 0);
        due("the other run", x.rob(1, 0), 1);
        x.minutes(10);
        due("the first run once more", x.rob(0, 0), 2);
        int[][] want = {{0, 10, 2, 36, 2, 5}, {1, 10, 2, 18, 1, 4}, {0, 20, 2, 9, 0, 3}};
        for (int k = 0; k < 3; k++) {
            for (int i = 0; i < 6; i++) {
                int what = i < 4 ? i : i + 6;
                due("robbery(" + k + ", " + what + ")", x.robbery(k, what), want[k][i]);
            }
            due("its third letter", x.robbery(k, 12), NONE);
        }
    }

    private static void gains(InlandMails x, int t, int low, int high, int setAt) {
        due("low", x.clock(t, 0), low);
        due("high", x.clock(t, 1), high);
        due("set at", x.clock(t, 2), setAt);
    }

    /** Promises 33, 34, 35. */
    private static void setAndSeen() {
        InlandMails x = new InlandMails();
        no("set of no train", x.set(0));
        no("seen of no train", x.seen(0, 0));
        due("clock of no train", x.clock(0, 0), -1000);
        x.train();
        x.train();
        gains(x, 0, -60, 60, 0);
        due("clock(0, 3)", x.clock(0, 3), -1000);
        due("clock(0, -1)", x.clock(0, -1), -1000);
        due("clock(-1, 0)", x.clock(-1, 0), -1000);
        due("clock(2, 0)", x.clock(2, 0), -1000);
        no("set(2)", x.set(2));
        no("set(-1)", x.set(-1));
        no("seen(-1, 0)", x.seen(-1, 0));
        no("the last minute, at once", x.seen(0, 10079));
        yes("it shows what it was set to", x.seen(0, 0));
        no("and nothing else", x.seen(0, 1));
        gains(x, 0, -60, 60, 0);
        x.minutes(60);
        no("seen(-1, 60)", x.seen(-1, 60));
        no("seen(0, -1)", x.seen(0, -1));
        no("seen(0, 10080)", x.seen(0, 10080));
        no("two minutes ahead", x.seen(0, 62));
        yes("a whole minute gained: 60 seconds alone", x.seen(0, 61));
        gains(x, 0, 60, 60, 0);
        gains(x, 1, -60, 60, 0);
        no("the other: two minutes behind", x.seen(1, 58));
        yes("the other: less is downwards", x.seen(1, 59));
        gains(x, 1, -60, -1, 0);
        no("what was seen of it stays", x.seen(1, 60));
        yes("set(1)", x.set(1));
        gains(x, 1, -60, -1, 60);
    }

    private static void seenOnceMore() {
        InlandMails x = new InlandMails();
        x.train();
        x.minutes(100);
        x.set(0);
        x.minutes(720);
        yes("seen", x.seen(0, 817));
        gains(x, 0, -15, -11, 100);
        x.minutes(720);
        yes("seen later", x.seen(0, 1535));
        gains(x, 0, -12, -11, 100);
        no("what can't be any more", x.seen(0, 1534));
        gains(x, 0, -12, -11, 100);
        x.set(0);
        x.minutes(1000);
        yes("set anew, it gains alike", x.seen(0, 2536));
        gains(x, 0, -12, -11, 1540);
        x.train();
        Land.upTo(x, 10079);
        no("it may show 10101, but that is no minute", x.seen(1, 10101));
        no("10080", x.seen(1, 10080));
        x.set(0);
        yes("the last minute", x.seen(0, 10079));
        due("true at last", x.trueMinute(0, 10079, 0), 10079);
    }

    private static void clockRunsBackNever() {
        InlandMails x = new InlandMails();
        x.train();
        x.minutes(50);
        x.set(0);
        yes("as it is set", x.seen(0, 50));
        x.minutes(1);
        yes("a minute on, or not quite", x.seen(0, 50));
        gains(x, 0, -60, -1, 50);
        x.minutes(59);
        no("an hour on", x.seen(0, 110));
        yes("less than a minute lost", x.seen(0, 109));
        gains(x, 0, -60, -1, 50);
    }

    /** Promise 36. */
    private static void trueMinute() {
        InlandMails x = new InlandMails();
        x.train();
        due("at once", x.trueMinute(0, 0, 0), 0);
        due("or when it has lost", x.trueMinute(0, 0, 1), 1);
        due("100 shown: least", x.trueMinute(0, 100, 0), 99);
        due("100 shown: greatest", x.trueMinute(0, 100, 1), 102);
        due("10079 shown: greatest is the last", x.trueMinute(0, 10079, 1), 10079);
        due("10079 shown: least", x.trueMinute(0, 10079, 0), 9914);
        due("7380 shown: by no whole second at 7260 to 7262", x.trueMinute(0, 7380, 0), 7263);
        due("7014 shown: least", x.trueMinute(0, 7014, 0), 6901);
        due("7014 shown: greatest", x.trueMinute(0, 7014, 1), 7133);
        x.minutes(600);
        yes("seen", x.seen(0, 602));
        due("1000 shown: least", x.trueMinute(0, 1000, 0), 996);
        due("1000 shown: greatest", x.trueMinute(0, 1000, 1), 997);
        x.set(0);
        due("ahead of its setting", x.trueMinute(0, 599, 0), NONE);
        due("ahead of its setting", x.trueMinute(0, 599, 1), NONE);
        due("as it was set: least", x.trueMinute(0, 600, 0), 600);
        due("as it was set: greatest", x.trueMinute(0, 600, 1), 600);
        due("minute -1", x.trueMinute(0, -1, 0), NONE);
        due("minute 10080", x.trueMinute(0, 10080, 0), NONE);
        due("what 2", x.trueMinute(0, 700, 2), NONE);
        due("what -1", x.trueMinute(0, 700, -1), NONE);
        due("no train", x.trueMinute(1, 700, 0), NONE);
        due("train -1", x.trueMinute(-1, 700, 0), NONE);
    }

    /** A clock that gains passes over minutes; one that loses never comes to the last ones. */
    private static void trueMinuteSkipped() {
        InlandMails x = new InlandMails();
        x.train();
        x.train();
        x.minutes(60);
        yes("a minute an hour gained", x.seen(0, 61));
        due("60 is passed over", x.trueMinute(0, 60, 0), NONE);
        due("60 is passed over", x.trueMinute(0, 60, 1), NONE);
        due("59 shown", x.trueMinute(0, 59, 0), 59);
        due("61 shown", x.trueMinute(0, 61, 1), 60);
        yes("behind", x.seen(1, 59));
        Land.upTo(x, 3600);
        yes("an hour lost", x.seen(1, 3540));
        due("low", x.clock(1, 0), -60);
        due("high", x.clock(1, 1), -60);
        due("it shows 9911 at last", x.trueMinute(1, 9911, 1), 10079);
        due("9912 never", x.trueMinute(1, 9912, 1), NONE);
        due("58 at one minute", x.trueMinute(1, 58, 0), 59);
        due("59 at two: least", x.trueMinute(1, 59, 0), 60);
        due("59 at two: greatest", x.trueMinute(1, 59, 1), 61);
    }

    /** Promise 37. */
    private static void tried() {
        InlandMails x = Land.of(3);
        due("no act", x.tried(0), NONE);
        x.road(0, 1, 30);
        Land.act(x, 0, "charge 5;");
        due("no letters", x.tried(0), 0);
        x.post(0, 0, 1, 1, 0, 0);
        x.post(1, 1, 2, 2, 0, 0);
        x.minutes(1440 + 700);
        x.post(3, 0, 1, 3, 0, 0);
        x.post(4, 0, 1, 4, 0, 0);
        x.road(0, 1, 10);
        Land.act(x, 6, "charge miles * 10 + sheets; ship 1000; sign 2000; late 5000 after 699;");
        due("by the act in force", x.tried(0), 20);
        due("by another, whatever its day", x.tried(1), 301 + 2 + 301 + 2 + 1 + 1000 + 5000 + 304 + 2000 + 5000 - 1);
        Land.act(x, 6, "charge 99999 ;");
        due("no such act", x.tried(2), NONE);
        Land.act(x, 6, "charge 9999 * 11 when day = 1 and hour = 11;");
        due("cut", x.tried(2), 2 * 99999);
        due("tried(-1)", x.tried(-1), NONE);
        due("tried(6)", x.tried(6), NONE);
        due("the charges stay", x.charge(0, 0), 5);
    }

    private static void triedFranks() {
        InlandMails x = Land.of(2);
        Land.act(x, 0, "frank 1; charge 10;");
        Land.act(x, 6, "frank 2; charge 1;");
        Land.act(x, 6, "charge 1;");
        Land.act(x, 6, "frank 99; charge 1; charge 3;");
        for (int n = 0; n < 3; n++) {
            x.post(2, 0, 1, 1, 0, 5);
        }
        x.post(2, 0, 1, 1, 0, 6);
        x.minutes(1440);
        x.post(2, 0, 1, 1, 0, 5);
        due("one free", x.tried(0), 20);
        due("two free", x.tried(1), 1);
        due("none free", x.tried(2), 5);
        due("all free", x.tried(3), 0);
    }

    /** Promise 38. */
    private static void whatIf() {
        InlandMails x = Land.of(3);
        Land.train(x, 0, 10, 10, 1, 20, 20);
        x.train();
        Land.sorterIn(x, 0, 1, ALL);
        Land.letter(x, 0, 1);
        Land.letter(x, 0, 2);
        due("as it is", x.whatIf(NONE, 0, 0), 20 + 10080);
        due("as it is, whatever else is told", x.whatIf(NONE, 9, 999), 20 + 10080);
        due("late", x.whatIf(0, 0, 300), 320 + 10080);
        due("another run", x.whatIf(0, 1, 300), 20 + 10080);
        due("late by 301", x.whatIf(0, 0, 301), NONE);
        due("late by -1", x.whatIf(0, 0, -1), NONE);
        due("day 7", x.whatIf(0, 7, 1), NONE);
        due("day -1", x.whatIf(0, -1, 1), NONE);
        due("no train", x.whatIf(2, 0, 1), NONE);
        due("train -2", x.whatIf(-2, 0, 1), NONE);
        due("no stops", x.whatIf(1, 0, 1), NONE);
        x.minutes(9);
        x.late(0, 0, 5);
        due("told late", x.whatIf(NONE, 0, 0), 25 + 10080);
        due("a minute ahead", x.whatIf(0, 0, 0), 20 + 10080);
        x.minutes(1);
        due("too late", x.whatIf(0, 0, 0), NONE);
        x.minutes(15);
        due("given already", x.whatIf(0, 1, 0), 25 + 10080);
    }

    /** Dead, robbed, burnt and found ones count nothing. */
    private static void whatIfStates() {
        InlandMails x = Land.of(3);
        Land.train(x, 0, 10, 10, 1, 20, 20);
        Land.train(x, 0, 100, 100, 2, 120, 120);
        Land.sorterIn(x, 0, 9, ALL);
        Land.sorterIn(x, 1, 9, ALL);
        Land.letter(x, 0, 1);
        x.nobody(0);
        Land.letter(x, 0, 1);
        x.nobody(1);
        Land.letter(x, 0, 2);
        Land.letter(x, 1, 0);
        Land.letter(x, 0, 1);
        due("ahead", x.whatIf(NONE, 0, 0), 120 + 10080 + 20);
        x.minutes(20);
        due("dead", x.whatIf(NONE, 0, 0), 120 + 10080 + 20);
        x.place(0, 2, 50);
        x.found(0, 2);
        due("found", x.whatIf(NONE, 0, 0), 120 + 10080 + 20);
        x.minutes(80);
        x.rob(1, 0);
        due("robbed", x.whatIf(NONE, 0, 0), 10080 + 20);
        Land.upTo(x, 4320);
        due("burnt", x.of(1, 7), 6);
        due("burnt", x.whatIf(NONE, 0, 0), 10080 + 20);
    }

    /** A trial begins with what lies aboard as it lies there. */
    private static void whatIfAboard() {
        InlandMails x = Land.of(4);
        Land.train(x, 0, 10, 10, 1, 20, 20, 2, 30, 30, 3, 40, 40);
        Land.sorterIn(x, 0, 1, 4);
        Land.letter(x, 0, 2);
        x.minutes(15);
        x.seat(0, NONE);
        due("sorted for stop 2, past stop 1", x.whatIf(NONE, 0, 0), 30);
        x.minutes(25);
        due("so it was", x.lead(0, 2, 0), 30);
        Land.letter(x, 0, 1);
        due("for stop 1, whose town none knows", x.whatIf(NONE, 0, 0), 30 + 10080);
    }

    private static void whatIfDoesNothing() {
        InlandMails x = Land.of(3);
        Land.train(x, 0, 10, 10, 1, 20, 20, 2, 30, 30);
        x.sorter(1, ALL);
        Land.letter(x, 0, 1);
        x.minutes(1);
        x.whatIf(0, 0, 100);
        x.seats(0);
        due("now", x.look(0), 1);
        due("in its hole", x.of(0, 7), 0);
        due("no row", x.lead(0, 1, 0), NONE);
        due("LATE as told", x.run(0, 0, 4), 0);
        due("the way as it was", x.way(0, 1, 1, 0), 20);
        due("left by none", x.run(0, 0, 3), 0);
        x.minutes(29);
        due("nobody sat there", x.of(0, 12), 1);
        due("left by one", x.run(0, 0, 3), 1);
    }

    /** Promise 39. */
    private static void seats() {
        InlandMails x = Land.of(3);
        due("nothing", x.seats(0), NONE);
        x.sorter(1, ALL);
        due("no trains", x.seats(0), NONE);
        due("no trains", x.seats(10), NONE);
        InlandMails y = Land.of(3);
        Land.train(y, 0, 10, 10, 1, 20, 20, 2, 30, 30);
        Land.train(y, 0, 50, 50, 2, 60, 60, 1, 70, 70);
        due("no sorters", y.seats(0), NONE);
        Land.letter(y, 0, 1);
        y.sorter(1, ALL);
        due("sorted in train 0", y.seats(0), 20);
        due("train", y.seats(10), 0);
        due("no second sorter", y.seats(11), NONE);
        due("seats(1)", y.seats(1), NONE);
        due("seats(-1)", y.seats(-1), NONE);
        due("seats(9)", y.seats(9), NONE);
        due("seats(12)", y.seats(12), NONE);
        y.minutes(10);
        due("aboard now: given two days later at best", y.seats(0), y.whatIf(NONE, 0, 0));
        yes("it sits where it is told", y.seat(0, 1));
        y.minutes(10);
        due("nothing was done", y.of(0, 7), 1);
    }

    /** Of several the first; the empty seats of a train without stops count as any. */
    private static void seatsTies() {
        InlandMails x = Land.of(2);
        x.train();
        Land.train(x, 0, 10, 10, 1, 20, 20);
        x.sorter(1, ALL);
        x.sorter(1, ALL);
        due("no letters", x.seats(0), 0);
        due("sorter 0", x.seats(10), 0);
        due("sorter 1", x.seats(11), 0);
        InlandMails y = Land.of(3);
        Land.train(y, 0, 10, 10, 1, 20, 20, 2, 30, 30);
        Land.train(y, 2, 10, 10, 1, 20, 20, 0, 30, 30);
        y.sorter(1, ALL);
        y.sorter(1, ALL);
        Land.letter(y, 0, 1);
        Land.letter(y, 2, 1);
        due("one in each", y.seats(0), 40);
        due("the lesser first", y.seats(10), 0);
        due("the other", y.seats(11), 1);
    }

    /** What changes them is seen in them, whatever was asked ahead of it. */
    private static void seatsAnew() {
        InlandMails x = Land.of(3);
        x.train();
        x.stop(0, 0, 10, 10, true);
        x.stop(0, 1, 20, 20, true);
        x.stop(0, 2, 30, 30, false);
        x.sorter(9, ALL);
        Land.letter(x, 0, 1);
        Land.letter(x, 0, 2);
        due("one sorter", x.seats(0), 20 + 30);
        yes("missed", x.miss(0, 0, 1));
        due("carried on to town 2, from which none goes", x.seats(0), 10080 + 30);
        x.stop(0, 1, 40, 40, false);
        due("put down there, and taken on by the same run", x.seats(0), 40 + 30);
        x.minutes(10);
        due("aboard raw by now: the sorter's time comes behind it", x.seats(0), 40 + 30);
        InlandMails y = Land.of(3);
        Land.train(y, 0, 10, 10, 1, 20, 20, 2, 30, 30);
        Land.train(y, 2, 10, 10, 1, 20, 20, 0, 30, 30);
        y.sorter(1, ALL);
        Land.letter(y, 0, 1);
        Land.letter(y, 2, 1);
        due("one sorter for two trains", y.seats(0), 20 + 1460);
        y.sorter(1, ALL);
        due("a second one", y.seats(0), 40);
        due("in the second train", y.seats(11), 1);
        yes("both in the first", y.seat(0, 0) && y.seat(1, 0));
        due("asked for once more", y.seats(0), 40);
        y.minutes(10);
        due("one aboard sorted, one raw", y.seats(0), 20 + 1460);
        due("they sit as they sat", y.run(0, 0, 1) - y.run(1, 0, 1), 1);
        y.rob(0, 0);
        due("robbed", y.seats(0), 1460);
        y.minutes(1440);
        due("the second sorter sits there still", y.run(0, 1, 0), 0);
    }

    /** Each of the first two where it does best. */
    private static void seatsApart() {
        InlandMails x = Land.of(3);
        Land.train(x, 0, 10, 10, 1, 20, 20, 2, 30, 30);
        Land.train(x, 2, 10, 10, 1, 20, 20, 0, 30, 30);
        Land.train(x, 1, 10, 10, 2, 20, 20, 0, 30, 30);
        x.sorter(1, 4);
        x.sorter(1, 2);
        Land.letter(x, 1, 2);
        Land.letter(x, 2, 1);
        due("both sorted", x.seats(0), 40);
        due("sorter 0, who knows town 2", x.seats(10), 2);
        due("sorter 1, who knows town 1", x.seats(11), 1);
    }

    /** The first two alone; others as they sit; what is told since changes them. */
    private static void seatsOfTwo() {
        InlandMails x = Land.of(4);
        Land.train(x, 0, 10, 10, 1, 20, 20, 3, 30, 30);
        Land.train(x, 0, 10, 10, 2, 20, 20, 3, 30, 30);
        x.sorter(1, 0);
        x.sorter(1, 4);
        Land.letter(x, 0, 1);
        Land.letter(x, 0, 2);
        due("one is given at 20", x.seats(0), 20 + 10080);
        due("sorter 0 anywhere", x.seats(10), 0);
        due("sorter 1 in train 1", x.seats(11), 1);
        Land.sorterIn(x, 0, 1, 2);
        due("the third sits well", x.seats(0), 40);
        due("seats(12)", x.seats(12), NONE);
        x.seat(2, 1);
        due("the third sits elsewhere", x.seats(0), 20 + 10080);
        x.seat(2, 0);
        due("and back", x.seats(0), 40);
        x.late(0, 0, 5);
        due("late", x.seats(0), 45);
        x.nobody(0);
        due("nobody", x.seats(0), 20);
        Land.letter(x, 0, 3);
        due("one more", x.seats(0), 50);
        x.train();
        due("one more train", x.seats(0), 50);
        x.minutes(3000);
        x.minutes(3000);
        due("given", x.seats(0), x.whatIf(NONE, 0, 0));
    }

    /** Who sorts, makes letters wait where the next run misses them: best is a train that goes nowhere. */
    private static void seatsInANewTrain(int whoSorts) {
        InlandMails x = Land.of(6);
        x.train();
        x.stop(0, 0, 100, 100, false);
        x.stop(0, 2, 200, 200, false);
        x.stop(0, 3, 300, 300, true);
        x.stop(0, 5, 400, 400, false);
        x.stop(0, 4, 600, 600, false);
        x.train();
        x.stop(1, 1, 100, 100, false);
        x.stop(1, 3, 200, 200, false);
        x.stop(1, 2, 300, 300, true);
        x.stop(1, 4, 400, 400, false);
        x.stop(1, 5, 600, 600, false);
        x.sorter(9, whoSorts == 0 ? ALL : 0);
        x.sorter(9, whoSorts == 1 ? ALL : 0);
        Land.letter(x, 0, 4);
        Land.letter(x, 1, 5);
        yes("miss", x.miss(0, 0, 2));
        yes("miss", x.miss(1, 0, 2));
        due("as it is", x.whatIf(NONE, 0, 0), 1200);
        due("sorter 0 in", x.seats(10), 0);
        due("sorter 1 in", x.seats(11), 0);
        yes("one letter waits", x.seats(0) > 1800);
        due("a new train", x.train(), 2);
        due("none waits", x.seats(0), 1200);
        due("who knows nothing, in", x.seats(11 - whoSorts), 0);
        due("who sorts, in", x.seats(10 + whoSorts), 2);
    }
}
