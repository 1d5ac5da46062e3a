/** Promises 17 to 20 by hand: ordinary inputs, the edges that the document names, wrong inputs. */
public final class ChargesAndWaysTest {
    private static final Due DUE = new Due("ChargesAndWaysTest");
    private static final int NONE = InlandMails.NONE;

    public static void main(String[] args) {
        post();
        of();
        cross();
        charge();
        chargeSums();
        chargeTests();
        fullActs();
        franks();
        way();
        wayTies();
        wayByNight();
        DUE.close();
    }

    private static void due(String call, long got, long want) {
        DUE.is(call, got, want);
    }

    private static void yes(String call, boolean got) {
        DUE.is(call, got, true);
    }

    private static void no(String call, boolean got) {
        DUE.is(call, got, false);
    }

    /** Promise 17. */
    private static void post() {
        InlandMails x = Land.of(2);
        due("kind -1", x.post(-1, 0, 1, 1, 0, 0), NONE);
        due("kind 5", x.post(5, 0, 1, 1, 0, 0), NONE);
        due("from no town", x.post(0, 2, 1, 1, 0, 0), NONE);
        due("from -1", x.post(0, -1, 1, 1, 0, 0), NONE);
        due("to no town", x.post(0, 0, 2, 1, 0, 0), NONE);
        due("to its own", x.post(0, 1, 1, 1, 0, 0), NONE);
        due("no sheets", x.post(0, 0, 1, 0, 0, 0), NONE);
        due("10 sheets", x.post(0, 0, 1, 10, 0, 0), NONE);
        due("weight -1", x.post(0, 0, 1, 1, -1, 0), NONE);
        due("weight 100", x.post(0, 0, 1, 1, 100, 0), NONE);
        due("who -1", x.post(0, 0, 1, 1, 0, -1), NONE);
        due("who 10", x.post(0, 0, 1, 1, 0, 10), NONE);
        due("nothing was posted", x.look(3), 0);
        for (int l = 0; l < 120; l++) {
            due("post", x.post(l % 5, l % 2, 1 - l % 2, 1 + l % 9, l % 100, l % 10), l);
        }
        due("the 121st", x.post(0, 0, 1, 1, 0, 0), NONE);
        due("letters", x.look(3), 120);
        due("of the last", x.of(119, 3), 3);
    }

    /** Promise 18. */
    private static void of() {
        InlandMails x = Land.of(3);
        Land.train(x, 2, 90, 100, 0, 150, 155, 1, 200, 200);
        x.minutes(61);
        due("post", x.post(3, 2, 1, 9, 99, 8), 0);
        int[] want = {3, 2, 1, 9, 99, 8, 61, 0, 2, 0, 0, NONE, 0};
        for (int what = 0; what < want.length; what++) {
            due("of(0, " + what + ")", x.of(0, what), want[what]);
        }
        due("of(0, 13)", x.of(0, 13), NONE);
        due("of(0, -1)", x.of(0, -1), NONE);
        due("of(1, 0)", x.of(1, 0), NONE);
        due("of(-1, 0)", x.of(-1, 0), NONE);
        x.minutes(39);
        due("aboard", x.of(0, 7), 1);
        due("of run (0, 0)", x.of(0, 8), 0);
        due("raw", x.of(0, 10), 0);
        due("for stop 2", x.of(0, 11), 2);
        x.minutes(100);
        due("given", x.of(0, 7), 2);
        due("in town 1", x.of(0, 8), 1);
        due("for no stop now", x.of(0, 11), NONE);
        due("left once", x.of(0, 12), 1);
        due("the minute stays", x.of(0, 6), 61);
    }

    /** Promise 18: cross. */
    private static void cross() {
        InlandMails x = Land.of(5);
        x.road(1, 0, 10);
        x.road(0, 2, 10);
        x.road(1, 3, 10);
        x.road(3, 2, 11);
        due("the capital's way is shorter", x.of(Land.letter(x, 1, 2), 9), 0);
        x.road(3, 2, 10);
        due("as short around", x.of(Land.letter(x, 1, 2), 9), 1);
        due("as it was posted", x.of(0, 9), 0);
        x.road(3, 2, 9);
        due("shorter around", x.of(Land.letter(x, 2, 1), 9), 1);
        due("from the capital", x.of(Land.letter(x, 0, 1), 9), 0);
        due("to the capital", x.of(Land.letter(x, 1, 0), 9), 0);
        due("without a way", x.of(Land.letter(x, 1, 4), 9), 0);
        due("neighbours", x.of(Land.letter(x, 3, 1), 9), 1);
        Land.act(x, 0, "charge cross * 1000 + miles;");
        due("asked: cross", x.charge(Land.letter(x, 1, 2), 0), 1019);
        due("asked: miles without a way", x.charge(Land.letter(x, 1, 4), 0), 0);
    }

    /** Promise 19. */
    private static void charge() {
        InlandMails x = Land.of(3);
        x.road(0, 1, 70);
        Land.letter(x, 0, 1);
        int[] before = {0, NONE, NONE, 0, 0, 0};
        for (int what = 0; what < 6; what++) {
            due("before any act: charge(0, " + what + ")", x.charge(0, what), before[what]);
        }
        Land.act(x, 0, "ship 4; charge 3 when miles < 70; late 2 after 60; charge 5 when sheets > 1; sign 100;"
            + "charge 7 when miles = 70; charge 9;");
        chargesOf(x, x.post(0, 0, 1, 1, 0, 0), 7, 2, true);
        chargesOf(x, x.post(1, 0, 1, 2, 0, 0), 5, 1, false);
        chargesOf(x, x.post(2, 0, 2, 1, 0, 0), 3, 0, false);
        chargesOf(x, x.post(3, 0, 1, 1, 0, 0), 11, 2, true);
        chargesOf(x, x.post(4, 0, 1, 1, 0, 0), 107, 2, false);
        x.minutes(60);
        chargesOf(x, x.post(0, 0, 1, 1, 0, 0), 7, 2, true);
        x.minutes(1);
        chargesOf(x, x.post(0, 0, 1, 1, 0, 0), 9, 2, true);
        chargesOf(x, x.post(4, 0, 1, 1, 0, 0), 109, 2, false);
        x.road(0, 1, 60);
        Land.act(x, 0, "charge 1000;");
        due("the charge stays", x.charge(1, 0), 7);
        due("the act stays", x.charge(1, 1), 0);
        due("the new act", x.charge(Land.letter(x, 0, 1), 1), 1);
        due("charge(0, 6)", x.charge(0, 6), NONE);
        due("charge(0, -1)", x.charge(0, -1), NONE);
        due("charge(99, 0)", x.charge(99, 0), NONE);
        due("charge(-1, 0)", x.charge(-1, 0), NONE);
    }

    private static void chargesOf(InlandMails x, int l, int all, int line, boolean owed) {
        due("all of " + l, x.charge(l, 0), all);
        due("act of " + l, x.charge(l, 1), 0);
        due("line of " + l, x.charge(l, 2), line);
        due("owed of " + l, x.charge(l, 3), owed ? all : 0);
        due("paid of " + l, x.charge(l, 4), owed ? 0 : all);
        due("free of " + l, x.charge(l, 5), 0);
    }

    private static void worth(String sum, int want) {
        InlandMails x = Land.of(3);
        x.road(0, 1, 70);
        x.minutes(1440 + 605);
        due("act of " + sum, Land.act(x, 0, "charge " + sum + ";"), 0);
        due("worth of " + sum, x.charge(x.post(1, 0, 1, 3, 25, 0), 0), want);
    }

    /** Promise 19: sums. */
    private static void chargeSums() {
        worth("miles", 70);
        worth("sheets", 3);
        worth("weight", 25);
        worth("hour", 10);
        worth("day", 1);
        worth("kind", 1);
        worth("cross", 0);
        worth("1 + 2 * 3", 7);
        worth("(1 + 2) * 3", 9);
        worth("10 - 2 - 3", 5);
        worth("10 - (2 - 3)", 11);
        worth("7 / 2 * 2", 6);
        worth("7 * 2 / 2", 7);
        worth("100 / 7 / 2", 7);
        worth("100 - (0 - 7) / 2 * 10", 130);
        worth("100 + (0 - 7) / 2", 97);
        worth("0 - 1", 0);
        worth("9999 * 10 + 9", 99999);
        worth("9999 * 10 + 10", 99999);
        worth("43 * 9999 * 9999 / 9999", 417);
        worth("65 * 9999 * 9999 / 9999", 0);
        worth("(0 - 22 * 9999 * 9999) / 9999 / 9", 23284);
    }

    private static void holds(String test, boolean want) {
        InlandMails x = Land.of(2);
        due("act when " + test, Land.act(x, 0, "charge 1 when " + test + "; charge 2;"), 0);
        due("line when " + test, x.charge(x.post(1, 0, 1, 3, 25, 0), 2), want ? 0 : 1);
    }

    /** Promise 19: tests of sums. */
    private static void chargeTests() {
        holds("1 < 2", true);
        holds("2 < 2", false);
        holds("2 = 2", true);
        holds("3 > 2", true);
        holds("2 > 2", false);
        holds("0 - 1 < 0", true);
        holds("not 1 = 1", false);
        holds("not not 1 = 1", true);
        holds("not not not 1 = 1", false);
        holds("not 1 = 2 and 1 = 2", false);
        holds("1 = 1 or 1 = 2 and 1 = 2", true);
        holds("1 = 2 and 1 = 2 or 1 = 1", true);
        holds("1 = 2 and 1 = 1 or 1 = 2", false);
        holds("1 = 2 or 1 = 1 and 1 = 1", true);
        holds("1 = 2 or 1 = 2 or 1 = 1", true);
        holds("1 = 1 and 1 = 1 and 1 = 2", false);
        holds("1 = 1 and 1 = 2 or 1 = 1 and 1 = 1 or 1 = 2", true);
        holds("not 1 = 1 or not 1 = 2 and 2 = 2", true);
        holds("(sheets + 1) * 2 = 8", true);
        holds("weight / 2 > 12", false);
    }

    /** As many acts as there may be, of texts as long as may be, with others refused between. */
    private static void fullActs() {
        InlandMails x = Land.of(2);
        for (int k = 0; k < 6; k++) {
            due("refused", Land.act(x, k, longSum(k + 1) + "+"), NONE);
            due("at the end", x.fault(1), 599);
            due("act " + k, Land.act(x, k, longSum(k) + ";"), k);
        }
        Land.letter(x, 0, 1);
        for (int k = 0; k < 6; k++) {
            due("tried(" + k + ")", x.tried(k), k + 295);
        }
    }

    /** Of 598 signs. */
    private static String longSum(int first) {
        StringBuilder text = new StringBuilder("charge ");
        text.append(first);
        while (text.length() < 598) {
            text.append("+1");
        }
        return text.toString();
    }

    /** Promise 19: franks. */
    private static void franks() {
        InlandMails x = Land.of(2);
        Land.act(x, 0, "frank 2; charge 10; late 3 after 5;");
        x.minutes(6);
        int first = x.post(2, 0, 1, 1, 0, 3);
        int other = x.post(2, 1, 0, 1, 0, 4);
        int paid = x.post(1, 0, 1, 1, 0, 3);
        int second = x.post(2, 1, 0, 1, 0, 3);
        int third = x.post(2, 0, 1, 1, 0, 3);
        for (int free : new int[] {first, other, second}) {
            int[] want = {0, 0, NONE, 0, 0, 1};
            for (int what = 0; what < 6; what++) {
                due("free frank: charge(" + free + ", " + what + ")", x.charge(free, what), want[what]);
            }
        }
        due("paid", x.charge(paid, 4), 13);
        due("the third frank", x.charge(third, 0), 13);
        due("the third frank, paid", x.charge(third, 4), 13);
        due("the third frank, line", x.charge(third, 2), 0);
        due("the third frank is not free", x.charge(third, 5), 0);
        x.minutes(1440);
        due("of the next day", x.charge(x.post(2, 0, 1, 1, 0, 3), 5), 1);
        Land.act(x, 1, "frank 0; charge 10;");
        due("none free", x.charge(x.post(2, 0, 1, 1, 0, 3), 5), 0);
        Land.act(x, 1, "frank 3; charge 10;");
        due("those charged count, too: the third", x.charge(x.post(2, 0, 1, 1, 0, 3), 5), 1);
        due("the fourth", x.charge(x.post(2, 0, 1, 1, 0, 3), 5), 0);
    }

    private static void ways(InlandMails x, int a, int minute, int b, int... want) {
        for (int what = 0; what < 6; what++) {
            String call = "way(" + a + ", " + minute + ", " + b + ", " + what + ")";
            due(call, x.way(a, minute, b, what), want.length == 6 ? want[what] : NONE);
        }
    }

    /** Promise 20. */
    private static void way() {
        InlandMails x = Land.of(4);
        Land.train(x, 0, 60, 65, 1, 100, 110, 2, 200, 200);
        Land.train(x, 1, 90, 100, 2, 150, 150);
        Land.train(x, 1, 80, 99, 2, 120, 120);
        ways(x, 0, 65, 2, 150, 2, 0, 0, 0, 1);
        ways(x, 0, 66, 2, 1590, 2, 0, 1, 0, 1);
        ways(x, 0, 0, 1, 100, 1, 0, 0, 0, 1);
        ways(x, 1, 0, 2, 120, 1, 2, 0, 0, 1);
        ways(x, 1, 100, 2, 150, 1, 1, 0, 0, 1);
        ways(x, 1, 101, 2, 200, 1, 0, 0, 1, 2);
        ways(x, 2, 0, 0);
        ways(x, 0, 0, 3);
        ways(x, 0, 0, 0);
        ways(x, 0, 0, 4);
        ways(x, -1, 0, 1);
        ways(x, 0, 10080, 1);
        ways(x, 0, -1, 1);
        ways(x, 0, 6 * 1440 + 66, 2);
        due("way(.., 6)", x.way(0, 0, 1, 6), NONE);
        due("way(.., -1)", x.way(0, 0, 1, -1), NONE);
        yes("late by 1: its passengers lose the next", x.late(0, 0, 1));
        ways(x, 0, 65, 2, 201, 1, 0, 0, 0, 2);
        yes("the next is late by 1, too", x.late(1, 0, 1));
        ways(x, 0, 65, 2, 151, 2, 0, 0, 0, 1);
        x.minutes(65);
        ways(x, 0, 64, 2);
        ways(x, 0, 65, 1, 101, 1, 0, 0, 0, 1);
    }

    /** Promise 20: of those that come first the fewest runs, the least train, day, stops. */
    private static void wayTies() {
        InlandMails x = Land.of(4);
        Land.train(x, 0, 10, 10, 1, 20, 25, 2, 40, 40);
        Land.train(x, 1, 20, 30, 2, 40, 40);
        ways(x, 0, 0, 2, 40, 1, 0, 0, 0, 2);
        Land.train(x, 0, 5, 5, 2, 40, 40);
        ways(x, 0, 0, 2, 40, 1, 0, 0, 0, 2);
        ways(x, 0, 11, 2, 1480, 1, 0, 1, 0, 2);
        InlandMails y = Land.of(4);
        Land.train(y, 0, 10, 10, 1, 20, 20, 0, 30, 30, 1, 40, 40, 2, 50, 50, 1, 60, 60);
        Land.train(y, 1, 70, 70, 3, 80, 80);
        ways(y, 0, 0, 3, 80, 2, 0, 0, 0, 1);
        ways(y, 0, 11, 3, 80, 2, 0, 0, 2, 3);
        InlandMails z = Land.of(3);
        Land.train(z, 0, 100, 100, 1, 1600, 1600);
        yes("late", z.late(0, 0, 1));
        ways(z, 0, 0, 1, 1601, 1, 0, 0, 0, 1);
        Land.train(z, 0, 1540, 1540, 1, 1601, 1601);
        ways(z, 0, 0, 1, 1601, 1, 0, 0, 0, 1);
        ways(z, 0, 102, 1, 1601, 1, 1, 0, 0, 1);
    }

    /** Promise 20: trains through midnight, and the last minute. */
    private static void wayByNight() {
        InlandMails x = Land.of(2);
        Land.train(x, 0, 1400, 1430, 1, 1439, 1439);
        ways(x, 0, 6 * 1440 + 1430, 1, 10079, 1, 0, 6, 0, 1);
        ways(x, 0, 10079, 1);
        ways(x, 1, 10079, 0);
        ways(x, -1, 0, 0);
        ways(x, 0, 0, -1);
        ways(x, 2, 0, 1);
        yes("late by 1", x.late(0, 6, 1));
        ways(x, 0, 6 * 1440 + 1430, 1);
        InlandMails y = Land.of(3);
        Land.train(y, 0, 2300, 2300, 1, 2350, 2350, 2, 2400, 2400);
        ways(y, 0, 0, 2, 2400, 1, 0, 0, 0, 2);
        ways(y, 0, 2301, 2, 3840, 1, 0, 1, 0, 2);
        ways(y, 0, 5 * 1440 + 2300, 1, 5 * 1440 + 2350, 1, 0, 5, 0, 1);
        ways(y, 0, 5 * 1440 + 2301, 1);
        Land.train(y, 2, 960, 960, 1, 961, 961, 0, 1000, 1000);
        ways(y, 0, 0, 1, 2350, 1, 0, 0, 0, 1);
        ways(y, 2, 2400, 1, 2401, 1, 1, 1, 0, 1);
        InlandMails z = Land.of(3);
        Land.train(z, 0, 1439, 1439, 1, 1440, 1440);
        Land.train(z, 2, 0, 0, 0, 1, 1);
        ways(z, 0, 5 * 1440 + 1439, 1, 6 * 1440, 1, 0, 5, 0, 1);
        ways(z, 0, 6 * 1440 + 1439, 1);
        Land.upTo(z, 10079);
        ways(z, 0, 10079, 1);
    }
}
