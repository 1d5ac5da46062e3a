/** Promises 1 to 16 by hand: ordinary inputs, the edges that the document names, wrong inputs. */
public final class TableAndActsTest {
    private static final Due DUE = new Due("TableAndActsTest");
    private static final int NONE = InlandMails.NONE;

    public static void main(String[] args) {
        newObject();
        town();
        roadAndMiles();
        train();
        stop();
        stopOf();
        late();
        miss();
        minutes();
        minuteEdges();
        look();
        feedAndEnd();
        act();
        faultsOne();
        faultsTwoAndThree();
        inForce();
        DUE.close();
    }

    private static void due(String call, long got, long want) {
        DUE.is(call, got, want);
    }

    private static void yes(String call, boolean got) {
        DUE.is(call, got, true);
    }

    private static void no(String call, boolean got) {
        DUE.is(call, got, false);
    }

    /** Promise 1, and the constant. */
    private static void newObject() {
        InlandMails x = new InlandMails();
        due("NONE", InlandMails.NONE, -1);
        for (int what = 0; what <= 5; what++) {
            due("new: look", x.look(what), 0);
        }
        due("new: miles(0, 0)", x.miles(0, 0), NONE);
        due("new: fault(0)", x.fault(0), 0);
        due("new: fault(1)", x.fault(1), NONE);
        due("new: inForce(0, 7)", x.inForce(0, 7), NONE);
        due("new: of(0, 0)", x.of(0, 0), NONE);
        due("new: end(0)", x.end(0) ? 1 : 0, 1);
        due("new: whatIf", x.whatIf(NONE, 0, 0), 0);
        due("new: seats(0)", x.seats(0), NONE);
    }

    /** Promise 2. */
    private static void town() {
        InlandMails x = new InlandMails();
        for (int a = 0; a < 12; a++) {
            due("town()", x.town(), a);
        }
        due("the 13th town", x.town(), NONE);
        due("towns", x.look(1), 12);
    }

    /** Promises 3 and 4. */
    private static void roadAndMiles() {
        InlandMails x = Land.of(5);
        due("miles without a road", x.miles(0, 1), NONE);
        yes("road(0, 1, 1)", x.road(0, 1, 1));
        yes("road(1, 2, 999)", x.road(1, 2, 999));
        yes("road(3, 2, 7)", x.road(3, 2, 7));
        no("road of one town", x.road(1, 1, 5));
        no("road of no miles", x.road(0, 2, 0));
        no("road of 1000 miles", x.road(0, 2, 1000));
        no("road to no town", x.road(0, 5, 5));
        no("road from no town", x.road(-1, 0, 5));
        due("miles(0, 3)", x.miles(0, 3), 1007);
        due("miles(3, 0)", x.miles(3, 0), 1007);
        due("miles(3, 3)", x.miles(3, 3), 0);
        due("miles(4, 4)", x.miles(4, 4), 0);
        due("miles(0, 4)", x.miles(0, 4), NONE);
        due("miles(0, 5)", x.miles(0, 5), NONE);
        due("miles(-1, 0)", x.miles(-1, 0), NONE);
        due("miles(5, 5)", x.miles(5, 5), NONE);
        yes("a longer road in its place", x.road(1, 0, 20));
        due("miles(0, 3) by the longer road", x.miles(0, 3), 1026);
        yes("a way around", x.road(0, 2, 30));
        due("miles(0, 3) around", x.miles(0, 3), 37);
        due("miles(1, 3) around", x.miles(1, 3), 57);
    }

    /** Promise 5. */
    private static void train() {
        InlandMails x = new InlandMails();
        for (int t = 0; t < 10; t++) {
            due("train()", x.train(), t);
        }
        due("the 11th train", x.train(), NONE);
        due("trains", x.look(2), 10);
    }

    /** Promise 6. */
    private static void stop() {
        InlandMails x = Land.of(3);
        due("stop of no train", x.stop(0, 0, 0, 0, false), NONE);
        due("train()", x.train(), 0);
        due("stop of train -1", x.stop(-1, 0, 0, 0, false), NONE);
        due("stop in no town", x.stop(0, 3, 0, 0, false), NONE);
        due("stop in town -1", x.stop(0, -1, 0, 0, false), NONE);
        due("comes below 0", x.stop(0, 0, -1, 0, false), NONE);
        due("goes ahead of comes", x.stop(0, 0, 5, 4, false), NONE);
        due("goes above 2400", x.stop(0, 0, 2400, 2401, false), NONE);
        due("fast, but stays", x.stop(0, 0, 4, 5, true), NONE);
        due("the first", x.stop(0, 0, 0, 3, false), 0);
        due("the same town", x.stop(0, 0, 9, 9, false), NONE);
        due("comes as the one ahead goes", x.stop(0, 1, 3, 9, false), NONE);
        due("comes a minute later, fast", x.stop(0, 1, 4, 4, true), 1);
        for (int i = 2; i < 7; i++) {
            due("stop " + i, x.stop(0, i % 2 * 2, 10 * i, 10 * i + 9, false), i);
        }
        due("at 2400", x.stop(0, 2, 2400, 2400, false), 7);
        due("stop 8", x.stop(0, 0, 2400, 2400, false), NONE);
        due("how many", x.stopOf(0, NONE, 0), 8);
        due("train()", x.train(), 1);
        due("nothing was done", x.stopOf(0, 1, 1), 4);
        due("minutes(1)", x.minutes(1), 1);
        due("a stop when now is beyond 0", x.stop(1, 0, 5, 5, false), NONE);
        due("no stop came", x.stopOf(1, NONE, 0), 0);
    }

    /** Promise 7. */
    private static void stopOf() {
        InlandMails x = Land.of(2);
        x.train();
        x.stop(0, 1, 10, 15, false);
        x.stop(0, 0, 20, 20, true);
        due("stopOf(0, 0, 0)", x.stopOf(0, 0, 0), 1);
        due("stopOf(0, 0, 1)", x.stopOf(0, 0, 1), 10);
        due("stopOf(0, 0, 2)", x.stopOf(0, 0, 2), 15);
        due("stopOf(0, 0, 3)", x.stopOf(0, 0, 3), 0);
        due("stopOf(0, 1, 3)", x.stopOf(0, 1, 3), 1);
        due("stopOf(0, 0, 4)", x.stopOf(0, 0, 4), NONE);
        due("stopOf(0, 0, -1)", x.stopOf(0, 0, -1), NONE);
        due("stopOf(0, NONE, 0)", x.stopOf(0, NONE, 0), 2);
        due("stopOf(0, NONE, 1)", x.stopOf(0, NONE, 1), NONE);
        due("stopOf(0, -2, 0)", x.stopOf(0, -2, 0), NONE);
        due("stopOf(0, 2, 0)", x.stopOf(0, 2, 0), NONE);
        due("stopOf(1, NONE, 0)", x.stopOf(1, NONE, 0), NONE);
        due("stopOf(-1, NONE, 0)", x.stopOf(-1, NONE, 0), NONE);
    }

    /** Promise 8. */
    private static void late() {
        InlandMails x = Land.of(2);
        Land.train(x, 0, 50, 60, 1, 100, 100);
        x.train();
        yes("late(0, 0, 300)", x.late(0, 0, 300));
        due("LATE", x.run(0, 0, 4), 300);
        due("LATE of another day", x.run(0, 1, 4), 0);
        no("late by 301", x.late(0, 0, 301));
        no("late by -1", x.late(0, 0, -1));
        no("late on day 7", x.late(0, 7, 1));
        no("late on day -1", x.late(0, -1, 1));
        no("late of no train", x.late(2, 0, 1));
        no("late of train -1", x.late(-1, 0, 1));
        no("late without stops", x.late(1, 6, 1));
        due("minutes(59)", x.minutes(59), 59);
        yes("told anew a minute ahead", x.late(0, 0, 20));
        due("minutes(1)", x.minutes(1), 60);
        no("told as it should have gone, though it has not", x.late(0, 0, 10));
        due("LATE stays", x.run(0, 0, 4), 20);
        due("not gone", x.run(0, 0, 2), NONE);
        due("minutes(20)", x.minutes(20), 80);
        due("gone late", x.run(0, 0, 2), 0);
        yes("of the next day", x.late(0, 1, 0));
    }

    /** Promise 9. */
    private static void miss() {
        InlandMails x = Land.of(3);
        x.train();
        x.stop(0, 0, 5, 5, true);
        x.stop(0, 1, 20, 20, true);
        x.stop(0, 2, 30, 33, false);
        x.stop(0, 1, 40, 40, true);
        no("miss of a stop that is not fast", x.miss(0, 0, 2));
        no("miss of the last stop", x.miss(0, 0, 3));
        no("miss of no stop", x.miss(0, 0, 4));
        no("miss of stop -1", x.miss(0, 0, -1));
        no("miss of no train", x.miss(1, 0, 0));
        no("miss on day 7", x.miss(0, 7, 1));
        no("miss on day -1", x.miss(0, -1, 1));
        yes("the first stop", x.miss(0, 0, 0));
        no("told already", x.miss(0, 0, 0));
        yes("of another day", x.miss(0, 1, 0));
        due("minutes(19)", x.minutes(19), 19);
        yes("a minute ahead", x.miss(0, 0, 1));
        due("minutes(1441)", x.minutes(1441), 1460);
        no("the run has come there", x.miss(0, 1, 1));
        yes("late", x.late(0, 2, 60));
        due("minutes(1490)", x.minutes(1490), 2950);
        yes("late, it has not come there", x.miss(0, 2, 1));
        missOfManyRuns();
    }

    /** Each run of each train has its own. */
    private static void missOfManyRuns() {
        InlandMails x = Land.of(2);
        for (int t = 0; t < 10; t++) {
            x.train();
            for (int i = 0; i < 8; i++) {
                x.stop(t, i % 2, 10 * i + 5, 10 * i + 5, true);
            }
        }
        for (int t = 0; t < 10; t++) {
            for (int d = 0; d < 7; d++) {
                for (int i = 0; i < 7; i++) {
                    yes("miss(" + t + ", " + d + ", " + i + ")", x.miss(t, d, i));
                }
                yes("late", x.late(t, d, 10 * d + t));
            }
        }
        for (int t = 0; t < 10; t++) {
            for (int d = 0; d < 7; d++) {
                due("LATE of run (" + t + ", " + d + ")", x.run(t, d, 4), 10 * d + t);
                for (int i = 0; i < 7; i++) {
                    no("told: miss(" + t + ", " + d + ", " + i + ")", x.miss(t, d, i));
                }
            }
            due("comes at the eighth stop", x.stopOf(t, 7, 1), 75);
        }
    }

    /** Promise 10. */
    private static void minutes() {
        InlandMails x = new InlandMails();
        due("minutes(0)", x.minutes(0), NONE);
        due("minutes(-1)", x.minutes(-1), NONE);
        due("minutes(3001)", x.minutes(3001), NONE);
        due("minutes(MAX)", x.minutes(Integer.MAX_VALUE), NONE);
        due("minutes(3000)", x.minutes(3000), 3000);
        due("minutes(3000)", x.minutes(3000), 6000);
        due("minutes(3000)", x.minutes(3000), 9000);
        due("minutes(1080), to 10080", x.minutes(1080), NONE);
        due("now", x.look(0), 9000);
        due("minutes(1079), to 10079", x.minutes(1079), 10079);
        due("minutes(1) beyond", x.minutes(1), NONE);
    }

    /** What happens in the minute up to which they go by happens; in the minute of now no more. */
    private static void minuteEdges() {
        InlandMails x = Land.of(2);
        Land.train(x, 0, 0, 0, 1, 10, 10);
        int early = Land.letter(x, 0, 1);
        due("minutes(10)", x.minutes(10), 10);
        due("minute 0 is over as letters are posted in it", x.of(early, 7), 0);
        due("minutes(1430)", x.minutes(1430), 1440);
        due("aboard in the last minute that went by", x.of(early, 7), 1);
        int later = Land.letter(x, 0, 1);
        due("minutes(10)", x.minutes(10), 1450);
        due("given in it", x.of(early, 7), 2);
        due("posted in the minute as it goes: it is gone", x.of(later, 7), 0);
    }

    /** Promise 11. */
    private static void look() {
        InlandMails x = Land.of(3);
        Land.train(x, 0, 10, 10, 1, 50, 50);
        x.sorter(1, 1);
        x.sorter(1, 1);
        Land.act(x, 0, "");
        Land.letter(x, 0, 1);
        Land.letter(x, 0, 2);
        due("towns", x.look(1), 3);
        due("trains", x.look(2), 1);
        due("letters", x.look(3), 2);
        due("sorters", x.look(4), 2);
        due("acts", x.look(5), 1);
        due("in holes", x.look(10), 2);
        x.minutes(10);
        due("now", x.look(0), 10);
        due("in holes", x.look(10), 1);
        due("aboard", x.look(11), 1);
        x.minutes(40);
        due("given", x.look(12), 1);
        due("look(-1)", x.look(-1), NONE);
        due("look(6)", x.look(6), NONE);
        due("look(9)", x.look(9), NONE);
        due("look(16)", x.look(16), 0);
        due("look(17)", x.look(17), NONE);
    }

    /** Promises 12 and 13. */
    private static void feedAndEnd() {
        InlandMails x = new InlandMails();
        no("end(1) of an empty tape", x.end(1));
        no("end(-1)", x.end(-1));
        for (int n = 20; n <= 600; n += 20) {
            due("feed", x.feed(0, 0, 0, 0, 0), n);
        }
        due("feed beyond 600", x.feed(0, 0, 0, 0, 0), NONE);
        yes("end(581)", x.end(581));
        due("feed beyond 600 by one", x.feed(0, 0, 0, 0, 0), NONE);
        no("end(582)", x.end(582));
        yes("end(580)", x.end(580));
        due("feed up to 600", x.feed(0, 0, 0, 0, 0), 600);
        yes("end(0)", x.end(0));
        due("feed again", x.feed(0x73686970, 0x20373b20, 0, -1, 0x80000000), 20);
        yes("the highest byte first: ship 7;", x.end(8));
        due("act(0)", x.act(0), 0);
        due("ship", x.inForce(0, 5), 7);
        no("the tape is empty behind it", x.end(1));
    }

    /** Promise 14. */
    private static void act() {
        InlandMails x = new InlandMails();
        due("an empty text", Land.act(x, 2, ""), 0);
        due("of the day before", Land.act(x, 1, ""), NONE);
        due("fault 0", x.fault(0), 0);
        due("no place", x.fault(1), NONE);
        due("day 7", Land.act(x, 7, "ship"), NONE);
        due("fault 0 for no such day", x.fault(0), 0);
        due("day -1", Land.act(x, -1, ""), NONE);
        due("a fault", Land.act(x, 2, "ship"), NONE);
        due("fault 1", x.fault(0), 1);
        no("the tape is empty behind a fault", x.end(1));
        due("of the same day", Land.act(x, 2, ";".substring(1)), 1);
        due("fault 0 of a good act", x.fault(0), 0);
        due("its place", x.fault(1), NONE);
        for (int k = 2; k < 6; k++) {
            due("act", Land.act(x, k, "\n ship " + k + " ;"), k);
        }
        due("a fault to tell", x.fault(2), NONE);
        due("the seventh", Land.act(x, 6, "ship"), NONE);
        due("fault 0 of the seventh", x.fault(0), 0);
        due("acts", x.look(5), 6);
        no("the tape is empty behind the seventh", x.end(1));
    }

    private static void fault(String text, int which, int place) {
        InlandMails x = new InlandMails();
        due("act of " + text, Land.act(x, 0, text), which == 0 ? 0 : NONE);
        due("fault(0) of " + text, x.fault(0), which);
        due("fault(1) of " + text, x.fault(1), place);
        due("acts behind " + text, x.look(5), which == 0 ? 1 : 0);
    }

    /** Promise 15: what can't stand there. */
    private static void faultsOne() {
        fault("charge 1", 1, 8);
        fault("charge 1  \n", 1, 11);
        fault("charge", 1, 6);
        fault("charge ;", 1, 7);
        fault("charge 1 2;", 1, 9);
        fault("charge 12345;", 1, 7);
        fault("charge 0001;", 0, NONE);
        fault("charge1when1<2;", 0, NONE);
        fault("charge 2miles;", 1, 8);
        fault("charge -1;", 1, 7);
        fault("charge 1 + ;", 1, 11);
        fault("charge 1 * / 2;", 1, 11);
        fault("charge 1 / miles;", 1, 11);
        fault("charge 1 / (2);", 1, 11);
        fault("charge (1;", 1, 9);
        fault("charge 1);", 1, 8);
        fault("charge ();", 1, 8);
        fault("charge 1 when 1 = 1 = 1;", 1, 20);
        fault("charge 1 when 1;", 1, 15);
        fault("charge 1 when (1 = 1);", 1, 17);
        fault("charge 1 when 1 = 1 and;", 1, 23);
        fault("charge 1 when 1 = not 1;", 1, 18);
        fault("charge 1 when ;", 1, 14);
        fault("charge when;", 1, 7);
        fault("charge late;", 1, 7);
        fault("Charge 1;", 1, 0);
        fault("charges 1;", 1, 0);
        fault("charge milesX;", 1, 7);
        fault("charge 1;\tship 1;", 1, 9);
        fault("charge 1; \u00e9", 1, 10);
        fault("charge 1;\u0000", 1, 9);
        fault(";", 1, 0);
        fault("miles;", 1, 0);
        fault("when 1 = 1;", 1, 0);
        fault("12;", 1, 0);
        fault("late 1;", 1, 6);
        fault("late 1 after;", 1, 12);
        fault("late after 1;", 1, 5);
        fault("late 1 after 1 when 1 = 1;", 1, 15);
        fault("frank x;", 1, 6);
        fault("ship miles;", 1, 5);
        fault("sign 1 + 1;", 1, 7);
        fault("dead (1);", 1, 5);
        fault("dead 12345;", 1, 5);
        fault("ship 1; sign", 1, 12);
        fault("charge 1 / 12345;", 1, 11);
        fault("abcdefghijklmnopqrstuvwxyz;", 1, 0);
        fault("charge shee ts;", 1, 7);
        fault("charge milesz;", 1, 7);
        fault("charge milesa;", 1, 7);
        fault("charge milesA;", 1, 7);
        fault("charge milesZ;", 1, 7);
        fault("charge miles[;", 1, 12);
        fault("charge miles@;", 1, 12);
        fault("charge miles`;", 1, 12);
        fault("charge miles{;", 1, 12);
        fault("charge 1:;", 1, 8);
        fault("charge 1.5;", 1, 8);
        fault("charge sheetsweight;", 1, 7);
        fault("charge 9;0", 1, 9);
        fault("charge (1));", 1, 10);
    }

    /** Promise 15: parts by 0, numbers too great, lines and brackets too many. */
    private static void faultsTwoAndThree() {
        fault("charge 1 / 0;", 2, 11);
        fault("charge miles/000;", 2, 13);
        fault("charge 1 / 0", 2, 11);
        fault("charge 0 / 1 * 0;", 0, NONE);
        fault("late 9999 after 1439;", 0, NONE);
        fault("late 1 after 1440;", 2, 13);
        fault("late 1 after 1440", 2, 13);
        fault("frank 99;", 0, NONE);
        fault("frank 100;", 2, 6);
        fault("ship 9999; sign 9999; dead 9999;", 0, NONE);
        StringBuilder lines = new StringBuilder();
        for (int n = 0; n < 23; n++) {
            lines.append("ship 1;");
        }
        fault(lines + "charge 1;", 0, NONE);
        fault(lines + "charge 1; sign 1;", 3, 171);
        fault(lines + "charge 1; charge 1;", 3, 171);
        fault(lines + "charge 1; ;", 1, 171);
        fault(lines + "charge 1; sign", 3, 171);
        fault(lines + "charge 1; signs", 1, 171);
        fault("charge ((((((((1))))))));", 0, NONE);
        fault("charge (((((((((1)))))))));", 3, 15);
        fault("charge ((((((((1)))))))) + ((((((((1))))))));", 0, NONE);
        fault("charge 1 when not not not not not not not not 1 = 1;", 0, NONE);
        fault("charge 1 when not not not not not not not not not 1 = 1;", 3, 46);
        fault("charge 1 when not not not not not not not (1) = (1);", 0, NONE);
        fault("charge 1 when not not not not not not not ((1)) = 1;", 3, 43);
        fault("charge 1 when not not not not not not not 1 = ((1));", 3, 47);
        fault("charge 1 when not not not not not not not not 1 = 1 and not 1 = 1;", 0, NONE);
        fault("charge 1 when not 1 = 1 or ((((((((1)))))))) = 1;", 0, NONE);
        fault("charge 1 when (((((((( not", 1, 23);
        fullTape();
    }

    private static void fullTape() {
        StringBuilder sum = new StringBuilder("charge 1");
        while (sum.length() < 598) {
            sum.append("+1");
        }
        fault(sum + " ;", 0, NONE);
        fault(sum + "+1", 1, 600);
        fault(sum + ";;", 1, 599);
    }

    /** Promise 16. */
    private static void inForce() {
        InlandMails x = new InlandMails();
        due("act", Land.act(x, 1, "late 5 after 100; frank 3; ship 7; sign 9; dead 2; charge 1; frank 4;"), 0);
        int[] want = {0, 7, 5, 100, 4, 7, 9, 2};
        for (int what = 0; what < 8; what++) {
            due("inForce(1, " + what + ")", x.inForce(1, what), want[what]);
            due("inForce(6, " + what + ")", x.inForce(6, what), want[what]);
            due("inForce(0, " + what + ")", x.inForce(0, what), NONE);
        }
        due("inForce(1, 8)", x.inForce(1, 8), NONE);
        due("inForce(1, -1)", x.inForce(1, -1), NONE);
        due("inForce(7, 0)", x.inForce(7, 0), NONE);
        due("inForce(-1, 0)", x.inForce(-1, 0), NONE);
        due("act", Land.act(x, 4, ""), 1);
        int[] empty = {1, 0, 0, 1439, 0, 0, 0, 3};
        for (int what = 0; what < 8; what++) {
            due("inForce(4, " + what + ")", x.inForce(4, what), empty[what]);
            due("inForce(3, " + what + ")", x.inForce(3, what), want[what]);
        }
        due("act of the same day", Land.act(x, 4, "late 1 after 2; late 3 after 4;"), 2);
        due("the latest counts", x.inForce(5, 0), 2);
        due("of late, too", x.inForce(5, 2), 3);
        due("of late, too", x.inForce(5, 3), 4);
    }
}
