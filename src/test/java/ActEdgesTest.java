/**
 * Section 2, and promises 12 to 16, 19 and 37: each sentence that names an edge, with what lies on it
 * and what lies just beyond. The sentence stands above its test.
 */
public final class ActEdgesTest {
    private static final Due DUE = new Due("ActEdgesTest");
    private static final int NONE = InlandMails.NONE;
    private static final int LEAST = Integer.MIN_VALUE;
    private static final int MOST = Integer.MAX_VALUE;

    public static void main(String[] args) {
        fedTo600();
        highestFirst();
        firstBytesAlone();
        emptyInAnyCase();
        daysOfActs();
        notAheadOfTheActBefore();
        sixActs();
        faultOfTheLatest();
        lettersThatStandTogether();
        digitsThatStandTogether();
        blanks();
        otherBytes();
        theEnd();
        firstByItsPlace();
        leastAtOnePlace();
        partBy0();
        lateAbove1439();
        frankAbove99();
        the25thLine();
        the9thOpen();
        latestLineCounts();
        withoutOne();
        inForceOnDays();
        intsThatWrap();
        towardsZero();
        cutToMost();
        onTopOfWhatIsCut();
        firstLineWhoseTestIsSo();
        testsThatHold();
        withoutLine();
        behindTheSecondOfLate();
        firstSoManyFranks();
        ninetyNineFranks();
        franksOfOneDay();
        beforeAnyAct();
        asItWasPosted();
        chargedByNone();
        triedByNone();
        mostOfAll();
        DUE.close();
    }

    private static void due(String call, long got, long want) {
        DUE.is(call, got, want);
    }

    private static void yes(String call, boolean got) {
        DUE.is(call, got, true);
    }

    private static void no(String call, boolean got) {
        DUE.is(call, got, false);
    }

    private static void good(String text) {
        fault(text, 0, NONE);
    }

    private static void fault(String text, int which, int place) {
        InlandMails x = new InlandMails();
        due("act of " + text, Land.act(x, 6, text), which == 0 ? 0 : NONE);
        due("fault(0) of " + text, x.fault(0), which);
        due("fault(1) of " + text, x.fault(1), place);
        due("acts behind " + text, x.look(5), which == 0 ? 1 : 0);
        due("what is in force behind " + text, x.inForce(6, 0), which == 0 ? 0 : NONE);
    }

    private static String lines(int n, String line) {
        StringBuilder all = new StringBuilder();
        for (int k = 0; k < n; k++) {
            all.append(line);
        }
        return all.toString();
    }

    /** Promise 12: "NONE, and nothing comes, if there would be more than 600." */
    private static void fedTo600() {
        for (int length : new int[] {579, 580, 581, 599, 600}) {
            InlandMails x = new InlandMails();
            Due.type(x, lines(length, " "));
            boolean fits = length <= 580;
            due("twenty behind " + length, x.feed(1, 2, 3, 4, 5), fits ? length + 20 : NONE);
            no("none came in part", x.end(fits ? length + 21 : length + 1));
            yes("it has so many", x.end(fits ? length + 20 : length));
        }
        InlandMails x = new InlandMails();
        Due.type(x, lines(593, " ") + "ship 8;");
        due("NONE", x.feed(-1, -1, -1, -1, -1), NONE);
        due("the tape is as it was", x.act(0), 0);
        due("to its last sign", x.inForce(0, 5), 8);
    }

    /** Promise 12: "Twenty bytes ..., of each number the highest first." */
    private static void highestFirst() {
        InlandMails x = new InlandMails();
        due("ship 1234;", x.feed(0x73686970, 0x20313233, 0x343b2020, 0x20202020, 0x0a0a0a0a), 20);
        due("act", x.act(0), 0);
        due("ship", x.inForce(0, 5), 1234);
        due("the highest byte above 127", x.feed(0x0aff6968, 0, 0, 0, 0), 20);
        due("is no keyword's", x.act(0), NONE);
        due("nor a blank", x.fault(1), 1);
        x.feed(0x2020203b, 0, 0, 0, 0);
        due("the lowest last", x.act(0), NONE);
        due("at its place", x.fault(1), 3);
    }

    /** Promise 13: "false, changing nothing, if it has not so many, or n is below 0." */
    private static void firstBytesAlone() {
        InlandMails x = new InlandMails();
        for (int n : new int[] {LEAST, -1, 1, 20, 600, 601, MOST}) {
            no("an empty tape: end(" + n + ")", x.end(n));
        }
        yes("none of none", x.end(0));
        Due.type(x, "ship 12; frank 3;   ");
        for (int n : new int[] {LEAST, -20, -1, 21, 600, MOST}) {
            no("end(" + n + ")", x.end(n));
        }
        yes("all it has", x.end(20));
        yes("fewer", x.end(7));
        no("not what is cut off", x.end(8));
        due("fed behind the first ones", x.feed(0x343b0a0a, 0x0a0a0a0a, 0x0a0a0a0a, 0x0a0a0a0a, 0x0a0a0a0a), 27);
        due("act", x.act(0), 0);
        due("ship 124", x.inForce(0, 5), 124);
        due("no frank", x.inForce(0, 4), 0);
        Due.type(x, "dead");
        yes("none of them", x.end(0));
        due("an act of nothing", x.act(0), 1);
        due("of no lines", x.inForce(0, 1), 0);
    }

    /** Promise 14: "The TAPE, empty then in any case." */
    private static void emptyInAnyCase() {
        InlandMails x = new InlandMails();
        int[] days = {3, 3, 7, -1, 2};
        String[] texts = {"ship 1;", "ship 1", "ship 1;", "ship 1;", "ship 1;"};
        for (int k = 0; k < days.length; k++) {
            due("act", Land.act(x, days[k], texts[k]), k == 0 ? 0 : NONE);
            no("empty behind it", x.end(1));
            yes("but there", x.end(0));
            due("fed from its beginning", x.feed(0, 0, 0, 0, 0), 20);
            x.end(0);
        }
        for (int k = 1; k < 6; k++) {
            due("act", Land.act(x, 3, ""), k);
        }
        due("the seventh", Land.act(x, 3, "ship 1;"), NONE);
        no("empty behind it", x.end(1));
    }

    /** Promise 14: "No such DAY ... (fault() tells 0 for these)." */
    private static void daysOfActs() {
        for (int day : new int[] {LEAST, -1, 7, 8, 1440, MOST}) {
            InlandMails x = new InlandMails();
            due("from day " + day, Land.act(x, day, "ship 1;"), NONE);
            due("no act", x.look(5), 0);
            due("fault 0", x.fault(0), 0);
            due("at no place", x.fault(1), NONE);
        }
        for (int day = 0; day <= 6; day++) {
            InlandMails x = new InlandMails();
            due("from day " + day, Land.act(x, day, "ship 1;"), 0);
        }
        InlandMails x = new InlandMails();
        Land.upTo(x, 10079);
        due("NOW does not matter", Land.act(x, 0, ""), 0);
    }

    /** "Not ahead of that of the ACT before." */
    private static void notAheadOfTheActBefore() {
        InlandMails x = new InlandMails();
        due("from day 3", Land.act(x, 3, ""), 0);
        due("from day 2", Land.act(x, 2, ""), NONE);
        due("fault 0", x.fault(0), 0);
        due("from day 0", Land.act(x, 0, ""), NONE);
        due("from day 3 again", Land.act(x, 3, ""), 1);
        due("refused by a fault", Land.act(x, 6, "ship"), NONE);
        due("from day 4: the refused one was none before it", Land.act(x, 4, ""), 2);
        due("from day 3", Land.act(x, 3, ""), NONE);
        due("from day 6", Land.act(x, 6, ""), 3);
    }

    /** "ACTS 0 .. 5"; promise 14: "or there are 6 (fault() tells 0 for these)." */
    private static void sixActs() {
        InlandMails x = new InlandMails();
        for (int k = 0; k < 6; k++) {
            due("act", Land.act(x, 0, "ship " + k + ";"), k);
            due("the latest counts", x.inForce(0, 5), k);
        }
        due("a fault", Land.act(x, 0, "ship 7"), NONE);
        due("there are 6: fault 0", x.fault(0), 0);
        due("the 7th", Land.act(x, 6, "ship 7;"), NONE);
        due("fault 0", x.fault(0), 0);
        due("at no place", x.fault(1), NONE);
        due("ACTS", x.look(5), 6);
        due("the last counts", x.inForce(6, 5), 5);
    }

    /** Promise 15: "Of the latest act(): ... (0 without one) ... (NONE). NONE for another what." */
    private static void faultOfTheLatest() {
        InlandMails x = new InlandMails();
        int[] which = {1, 2, 3, 0, 1, 0, 2, 0};
        int[] place = {4, 6, 168, NONE, 0, NONE, 13, NONE};
        String[] texts = {"ship", "frank 100;", lines(25, "ship 1;"), "ship 1;", ";", "", "late 1 after 1440;", ""};
        int[] days = {0, 0, 0, 0, 0, 0, 0, 7};
        due("ahead of any", x.fault(0), 0);
        due("ahead of any", x.fault(1), NONE);
        for (int k = 0; k < texts.length; k++) {
            Land.act(x, days[k], texts[k]);
            due("fault of " + texts[k], x.fault(0), which[k]);
            due("its place in " + texts[k], x.fault(1), place[k]);
            x.feed(0, 0, 0, 0, 0);
            x.end(0);
            due("it stays", x.fault(0), which[k]);
            for (int what : new int[] {LEAST, -1, 2, 10, MOST}) {
                due("another what", x.fault(what), NONE);
            }
        }
    }

    /** "Letters as many as stand together are KEYWORDS (those told here) or none." */
    private static void lettersThatStandTogether() {
        good("charge miles+sheets+weight+hour+day+kind+cross when not 1=1 and 1=1 or 1=1;late 1 after 1;");
        good("frank 1;ship 1;sign 1;dead 1;");
        fault("shi p 1;", 1, 0);
        fault("shipship 1;", 1, 0);
        fault("Ship 1;", 1, 0);
        fault("shiP 1;", 1, 0);
        fault("SHIP 1;", 1, 0);
        fault("charge mile;", 1, 7);
        fault("charge miless;", 1, 7);
        fault("charge dayhour;", 1, 7);
        fault("charge 1 whennot 1 = 1;", 1, 9);
        fault("charge 1 when not1 = 1;", 0, NONE);
        fault("charge 1 when notmiles = 1;", 1, 14);
        fault("aaaaaaaaaaaaaaaaaaaaaaaaaaaaaaaaaaaaaaaaship 1;", 1, 0);
        fault("charge e;", 1, 7);
        fault("charge z;", 1, 7);
        fault("charge number;", 1, 7);
    }

    /** "Digits as many as stand together NUMBERS of 1 to 4 digits or none." */
    private static void digitsThatStandTogether() {
        good("ship 0;");
        good("ship 9;");
        good("ship 9999;");
        good("ship 0000;");
        fault("ship 00000;", 1, 5);
        fault("ship 10000;", 1, 5);
        fault("ship 4294967297;", 1, 5);
        fault("ship 1 2;", 1, 7);
        fault("charge 1 / 00000;", 1, 11);
        fault("frank 00100;", 1, 6);
        fault("late 1 after 01440;", 1, 13);
        good("ship1;sign2;");
        good("late1after2;");
        fault("ship1sign2;", 1, 5);
        fault("1ship 1;", 1, 0);
    }

    /** "Blanks (32, 10) between." */
    private static void blanks() {
        good(" \n \n");
        good("\n\nship\n\n1\n\n;\n\n");
        good("   charge   1   +   2   when   1   <   2   ;   ");
        good("charge(1)*(2)-(3)/4;");
        for (char c : new char[] {0, 1, 9, 11, 12, 13, 31, 33, 127, 128, 160, 255}) {
            fault("ship 1;" + c, 1, 7);
            fault("ship" + c + "1;", 1, 4);
        }
    }

    /** "What can't stand there": signs, of tokens and of none, ahead of a line, of a sum, and behind one. */
    private static void otherBytes() {
        for (int c = 33; c < 256; c++) {
            boolean word = c >= 'a' && c <= 'z' || c >= 'A' && c <= 'Z' || c >= '0' && c <= '9';
            if (!word) {
                char sign = (char) c;
                fault("charge 1;" + sign, 1, 9);
                fault("charge " + sign, 1, sign == '(' ? 8 : 7);
                if (sign != ';') {
                    fault("charge 1" + sign, 1, "+-*/".indexOf(sign) >= 0 ? 9 : 8);
                }
            }
        }
    }

    /** "1 what can't stand there (the end: the text's length)." */
    private static void theEnd() {
        String whole = "charge ( 1 + miles ) * 2 / 3 when not 1 < 2 and 3 = 4 or 5 > 6 ; late 7 after 8 ; dead 9 ;";
        good(whole);
        for (int n = 0; n < whole.length(); n++) {
            String text = whole.substring(0, n);
            String cut = text.trim();
            if (cut.isEmpty() || cut.endsWith(";")) {
                good(text);
            } else if (text.endsWith(" ") || !Character.isLetter(whole.charAt(n)) || !endsInWord(text)) {
                fault(text, 1, n);
            }
        }
        fault("ship" + lines(596, " "), 1, 600);
        fault("ship" + lines(596, "\n"), 1, 600);
    }

    private static boolean endsInWord(String text) {
        return Character.isLetter(text.charAt(text.length() - 1));
    }

    /** "FAULTS, the first by its place." */
    private static void firstByItsPlace() {
        fault("frank 100 ship;", 2, 6);
        fault("charge 1 / 0 / 0 +;", 2, 11);
        fault("ship; frank 100;", 1, 4);
        fault("charge 1 + (; charge 1 / 0;", 1, 12);
        fault("charge 1 / 0; charge 1 +;", 2, 11);
        fault("late x after 1440;", 1, 5);
        fault("late 1 after 1440 5", 2, 13);
        fault("charge (((((((((1 / 0;", 3, 15);
        fault("charge 1 / 0 + (((((((((1;", 2, 11);
        fault(lines(24, "ship 1;") + "frank 100;", 3, 168);
        fault(lines(23, "ship 1;") + "frank 100;ship 1;", 2, 167);
    }

    /** "At one place the least." */
    private static void leastAtOnePlace() {
        fault(lines(24, "ship 1;") + "miles", 1, 168);
        fault(lines(24, "ship 1;") + "100", 1, 168);
        fault(lines(24, "ship 1;") + "(", 1, 168);
        fault("charge ((((((((1(", 1, 16);
        fault("charge ((((((((1)))))))) (", 1, 25);
        fault("charge 1 when not not not not not not not not 1 not", 1, 48);
        fault("charge ((((((((not", 1, 15);
        fault("charge (((((((( / 0", 1, 16);
        fault("charge 1 / 00000;", 1, 11);
        fault("frank 10000;", 1, 6);
    }

    /** "2 (at the NUMBER) a part by 0." */
    private static void partBy0() {
        fault("charge 1/0;", 2, 9);
        fault("charge 1 /\n  0000;", 2, 13);
        fault("charge 0/0;", 2, 9);
        fault("charge 6/2/0;", 2, 11);
        fault("charge (6/0);", 2, 10);
        fault("charge 1 when 6/0 = 1;", 2, 16);
        fault("charge 1 when 1 = 6 * 2 / 0;", 2, 26);
        fault("charge 1 / ;", 1, 11);
        fault("charge 1 / when 1 = 1;", 1, 11);
        fault("charge 1 when 1 / = 1;", 1, 18);
        fault("charge 1 when 1 = 1 / ;", 1, 22);
        good("charge 0/1;");
        good("charge 1/9999;");
        good("charge 0*0+0-0;");
        good("charge 1 when 0 = 0;");
        good("ship 0; sign 0; dead 0; frank 0; late 0 after 0;");
    }

    /** "2 (at the NUMBER) ... the second of late above 1439." */
    private static void lateAbove1439() {
        good("late 9999 after 1439;");
        good("late 0 after 0;");
        good("late 1440 after 1;");
        fault("late 0 after 1440;", 2, 13);
        fault("late 0 after 9999;", 2, 13);
        fault("late 0 after\n\n1440", 2, 14);
    }

    /** "2 (at the NUMBER) ... frank above 99." */
    private static void frankAbove99() {
        good("frank 0;");
        good("frank 99;");
        good("frank 0099;");
        fault("frank 100;", 2, 6);
        fault("frank 0100;", 2, 6);
        fault("frank 9999", 2, 6);
        good("ship 100; sign 100; dead 100; late 100 after 100;");
    }

    /** "3 (at its first KEYWORD) the 25th line." */
    private static void the25thLine() {
        String[] kinds = {"charge 1;", "late 1 after 1;", "frank 1;", "ship 1;", "sign 1;", "dead 1;"};
        for (String line : kinds) {
            InlandMails x = new InlandMails();
            due("24 of " + line, Land.act(x, 0, lines(24, line)), 0);
            due("so many lines", x.inForce(0, 1), 24);
            fault(lines(23, "ship 1;") + line + " " + line, 3, 162 + line.length());
            fault(lines(24, "ship 1;") + line.substring(0, line.indexOf(' ')), 3, 168);
        }
        fault(lines(24, "ship 1;") + "\n \n", 0, NONE);
        fault(lines(24, "ship 1;") + ";", 1, 168);
        fault(lines(26, "ship 1;"), 3, 168);
    }

    /** "3 ... (at it) the 9th ( or not that is open." */
    private static void the9thOpen() {
        for (int nots = 0; nots <= 9; nots++) {
            String text = "charge 1 when " + lines(nots, "not ");
            int room = 8 - nots;
            if (room < 0) {
                fault(text + "1 = 1;", 3, 14 + 4 * 8);
            } else {
                good(text + lines(room, "(") + "1" + lines(room, ")") + "=" + lines(room, "(") + "1" + lines(room, ")") + ";");
                fault(text + lines(room + 1, "("), 3, text.length() + room);
                fault(text + "1 = " + lines(room + 1, "("), 3, text.length() + 4 + room);
                good(text + "1 = 1 and " + lines(8, "not ") + "1 = 1 or " + lines(8, "(") + "1" + lines(8, ")") + "< 1;");
            }
        }
        good("charge " + lines(8, "(") + "1" + lines(8, ")") + ";");
        fault("charge " + lines(9, "("), 3, 15);
        good("charge " + lines(8, "(") + "1" + lines(8, ")") + "*" + lines(8, "(") + "1" + lines(8, ")") + ";");
        good("charge " + lines(7, "(") + "(1) + (1)" + lines(7, ")") + ";");
        fault("charge " + lines(8, "(") + "1 + (", 3, 19);
        good("charge " + lines(30, "(1)+") + "1;");
    }

    /** "Of late, frank, ship, sign, dead the latest line counts." */
    private static void latestLineCounts() {
        InlandMails x = new InlandMails();
        Land.act(x, 0, "late 1 after 2; frank 3; ship 4; sign 5; dead 6;"
            + "dead 60; sign 50; ship 40; frank 30; late 10 after 20;");
        int[] want = {0, 10, 10, 20, 30, 40, 50, 60};
        for (int what = 0; what < 8; what++) {
            due("inForce(0, " + what + ")", x.inForce(0, what), want[what]);
        }
        Land.act(x, 0, "late 10 after 20; frank 9; ship 9; sign 9; dead 9; late 0 after 0; frank 0; ship 0; sign 0; dead 0;");
        int[] zeros = {1, 10, 0, 0, 0, 0, 0, 0};
        for (int what = 0; what < 8; what++) {
            due("zeros, inForce(0, " + what + ")", x.inForce(0, what), zeros[what]);
        }
    }

    /** "(Without one: late 0 after 1439, frank 0, ship 0, sign 0, dead 3)." */
    private static void withoutOne() {
        InlandMails x = new InlandMails();
        Land.act(x, 0, "late 1 after 2; frank 3; ship 4; sign 5; dead 6;");
        Land.act(x, 0, "late 1 after 2; frank 3; ship 4; sign 5; dead 6; ship");
        Land.act(x, 0, "charge 9;");
        int[] want = {1, 1, 0, 1439, 0, 0, 0, 3};
        for (int what = 0; what < 8; what++) {
            due("inForce(0, " + what + ")", x.inForce(0, what), want[what]);
        }
    }

    /** Promise 16: "NONE without one, for no such DAY, or another what." */
    private static void inForceOnDays() {
        InlandMails x = new InlandMails();
        for (int day = 0; day < 7; day++) {
            due("without one", x.inForce(day, 0), NONE);
        }
        Land.act(x, 1, "ship 1;");
        Land.act(x, 3, "ship 2;");
        Land.act(x, 3, "ship 3;");
        Land.act(x, 6, "ship 4;");
        int[] number = {NONE, 0, 0, 2, 2, 2, 3};
        for (int day = 0; day < 7; day++) {
            due("on day " + day, x.inForce(day, 0), number[day]);
            due("its ship", x.inForce(day, 5), number[day] == NONE ? NONE : number[day] + 1);
            for (int what : new int[] {LEAST, -1, 8, MOST}) {
                due("another what", x.inForce(day, what), NONE);
            }
        }
        for (int day : new int[] {LEAST, -1, 7, MOST}) {
            due("on day " + day, x.inForce(day, 0), NONE);
        }
    }

    private static int chargeOf(String text) {
        InlandMails x = Land.of(2);
        due("act of " + text, Land.act(x, 0, text), 0);
        return x.charge(x.post(1, 0, 1, 3, 25, 0), 0);
    }

    /** "Ints, which wrap." */
    private static void intsThatWrap() {
        due("2^31 - 1", chargeOf("charge 2 when 9999 * 9999 * 21 + 4999 * 9566 + 5 * 7 > 0; charge 1;"), 2);
        String most = "(2 * 32 * 32 * 32 * 32 * 32 * 32 - 1)";
        due("2^31 - 1 is above 0", chargeOf("charge 2 when " + most + " > 0; charge 1;"), 2);
        due("one more is below", chargeOf("charge 2 when " + most + " + 1 < 0; charge 1;"), 2);
        due("twice one more is 0", chargeOf("charge 2 when (" + most + " + 1) * 2 = 0; charge 1;"), 2);
        due("one less than the least is the greatest",
            chargeOf("charge 2 when 0 - " + most + " - 2 = " + most + "; charge 1;"), 2);
        due("wrapped ahead of the cut", chargeOf("charge " + most + " + 1;"), 0);
        due("wrapped ahead of the cut", chargeOf("charge 0 - " + most + " - 1 - 5;"), 99999);
        due("wrapped, and back", chargeOf("charge " + most + " + 10 - " + most + ";"), 10);
        due("65536 * 65536 + 7", chargeOf("charge 256 * 256 * 256 * 256 + 7;"), 7);
    }

    /** "/ goes towards 0." */
    private static void towardsZero() {
        due("7 / 2", chargeOf("charge 7 / 2;"), 3);
        due("-7 / 2", chargeOf("charge 10 + (0 - 7) / 2;"), 7);
        due("-1 / 2", chargeOf("charge 10 + (0 - 1) / 2;"), 10);
        due("-8 / 2", chargeOf("charge 10 + (0 - 8) / 2;"), 6);
        due("the least by 1", chargeOf("charge 2 when 128 * 256 * 256 * 256 / 1 < 0; charge 1;"), 2);
        due("0 / 9", chargeOf("charge 10 + 0 / 9;"), 10);
    }

    /** "Cut to 0 .. 99999." */
    private static void cutToMost() {
        due("-1", chargeOf("charge 0 - 1;"), 0);
        due("0", chargeOf("charge 0;"), 0);
        due("1", chargeOf("charge 1;"), 1);
        due("99998", chargeOf("charge 9999 * 10 + 8;"), 99998);
        due("99999", chargeOf("charge 9999 * 10 + 9;"), 99999);
        due("100000", chargeOf("charge 10 * 10 * 1000;"), 99999);
        due("a lot", chargeOf("charge 9999 * 9999;"), 99999);
    }

    /** "To it comes late's first number ...; of SHIP ship; of SIGNED sign": behind the cut. */
    private static void onTopOfWhatIsCut() {
        InlandMails x = Land.of(2);
        Land.act(x, 0, "charge 9999 * 9999 when sheets = 9; charge 0 - 5; late 9999 after 0; ship 9998; sign 9997;");
        x.minutes(1);
        int[] more = {0, 0, 0, 9998, 9997};
        long sum = 0;
        for (int kind = 0; kind < 5; kind++) {
            int dear = x.post(kind, 0, 1, 9, 0, kind);
            int cheap = x.post(kind, 0, 1, 1, 0, kind);
            due("of kind " + kind, x.charge(dear, 0), 99999 + 9999 + more[kind]);
            due("of kind " + kind, x.charge(cheap, 0), 9999 + more[kind]);
            boolean owed = kind == 0 || kind == 3;
            due("owed", x.charge(dear, 3), owed ? 99999 + 9999 + more[kind] : 0);
            due("paid", x.charge(dear, 4), owed ? 0 : 99999 + 9999 + more[kind]);
            sum += 99999 + 2 * 9999 + 2 * more[kind];
        }
        due("tried", x.tried(0), sum);
    }

    /** "The E of the first charge line whose B is so." */
    private static void firstLineWhoseTestIsSo() {
        InlandMails x = Land.of(2);
        Land.act(x, 0, "ship 0; charge 10 when weight < 10; sign 0; charge 11 when weight < 20; charge 12 when weight = 20;"
            + "dead 5; charge 13; charge 14 when weight = 99;");
        int[] weights = {0, 9, 10, 19, 20, 21, 99};
        int[] lines = {0, 0, 1, 1, 2, 3, 3};
        for (int k = 0; k < weights.length; k++) {
            int l = x.post(0, 0, 1, 1, weights[k], 0);
            due("by line, of weight " + weights[k], x.charge(l, 2), lines[k]);
            due("charge, of weight " + weights[k], x.charge(l, 0), 10 + lines[k]);
        }
    }

    /** "B = C {or C}. C = D {and D}. D = E (< | = | >) E | not D": of each a less, an equal, a more. */
    private static void testsThatHold() {
        String[] signs = {"<", "=", ">"};
        for (int a = 0; a < 9; a++) {
            for (int b = 0; b < 9; b++) {
                boolean one = holds(a / 3, a % 3, 0);
                String first = a / 3 + signs[0] + a % 3;
                for (int k = 0; k < 3; k++) {
                    boolean two = holds(b / 3, b % 3, k);
                    String second = b / 3 + signs[k] + b % 3;
                    when(first + " and " + second, one && two);
                    when(first + " or " + second, one || two);
                    when("not " + first + " and not " + second, !one && !two);
                    when("not " + second + " or not not " + first, !two || one);
                    when(second + " and " + first + " or " + second, two);
                    when(second + " or " + first + " and " + second, two);
                    when("not " + second + " or " + first + " and not " + second, !two);
                }
            }
        }
    }

    private static boolean holds(int a, int b, int sign) {
        return sign == 0 ? a < b : sign == 1 ? a == b : a > b;
    }

    private static void when(String test, boolean want) {
        due("when " + test, chargeOf("charge 5 when " + test + "; charge 4;"), want ? 5 : 4);
    }

    /** "(0 without ...)"; promise 19: "the charge line (by charge lines alone; NONE ...)." */
    private static void withoutLine() {
        InlandMails x = Land.of(2);
        Land.act(x, 0, "charge 10 when weight > 10; ship 3;");
        int l = x.post(3, 0, 1, 1, 10, 0);
        due("no line", x.charge(l, 2), NONE);
        due("by the act", x.charge(l, 1), 0);
        due("ship comes to 0", x.charge(l, 0), 3);
        Land.act(x, 0, "ship 5;");
        int m = x.post(3, 0, 1, 1, 99, 0);
        due("no charge lines", x.charge(m, 2), NONE);
        due("ship alone", x.charge(m, 0), 5);
    }

    /** "If the DAY's minute is behind its second." */
    private static void behindTheSecondOfLate() {
        InlandMails x = Land.of(2);
        Land.act(x, 0, "late 5 after 0; charge 1;");
        Land.act(x, 1, "late 5 after 1438; charge 1;");
        Land.act(x, 2, "late 5 after 1439; charge 1;");
        Land.act(x, 3, "late 5 after 600; charge 1;");
        int[] minutes = {0, 1, 1439, 1440, 1440 + 1438, 1440 + 1439, 2880, 2880 + 1439, 4320 + 599, 4320 + 600,
            4320 + 601, 4320 + 1439, 5760, 5760 + 600, 5760 + 601};
        int[] want = {1, 6, 6, 1, 1, 6, 1, 1, 1, 1, 6, 6, 1, 1, 6};
        for (int k = 0; k < minutes.length; k++) {
            Land.upTo(x, minutes[k]);
            due("at " + minutes[k], x.charge(Land.letter(x, 0, 1), 0), want[k]);
        }
    }

    /** "If it is one of the first so many (frank) FRANKS of its WHO posted that DAY." */
    private static void firstSoManyFranks() {
        for (int frank = 0; frank <= 3; frank++) {
            InlandMails x = Land.of(2);
            Land.act(x, 0, "charge 7; frank " + frank + ";");
            for (int n = 0; n < 5; n++) {
                for (int who = 0; who < 10; who += 9) {
                    x.post(1, 0, 1, 1, 0, who);
                    int l = x.post(2, n % 2, 1 - n % 2, 1, 0, who);
                    due("frank " + frank + ", number " + n, x.charge(l, 5), n < frank ? 1 : 0);
                    due("all is 0, or not", x.charge(l, 0), n < frank ? 0 : 7);
                    due("paid", x.charge(l, 4), n < frank ? 0 : 7);
                    due("owed by none", x.charge(l, 3), 0);
                    due("the line, NONE of a FREE one", x.charge(l, 2), n < frank ? NONE : 0);
                    due("the act", x.charge(l, 1), 0);
                }
            }
        }
    }

    /** The greatest frank. */
    private static void ninetyNineFranks() {
        InlandMails x = Land.of(2);
        Land.act(x, 0, "charge 7; frank 99;");
        for (int n = 0; n < 120; n++) {
            int l = x.post(2, 0, 1, 1, 0, 9);
            due("number " + n, x.charge(l, 5), n < 99 ? 1 : 0);
        }
        due("tried", x.tried(0), 21 * 7);
    }

    /** "... of its WHO posted that DAY": from its first minute to its last one. */
    private static void franksOfOneDay() {
        InlandMails x = Land.of(2);
        Land.act(x, 0, "charge 7; frank 1;");
        Land.upTo(x, 1439);
        due("the first of day 0", x.charge(x.post(2, 0, 1, 1, 0, 4), 5), 1);
        due("the second", x.charge(x.post(2, 0, 1, 1, 0, 4), 5), 0);
        x.minutes(1);
        due("the first of day 1", x.charge(x.post(2, 0, 1, 1, 0, 4), 5), 1);
        Land.upTo(x, 2879);
        due("the second of day 1, in its last minute", x.charge(x.post(2, 0, 1, 1, 0, 4), 5), 0);
        x.minutes(1);
        due("the first of day 2", x.charge(x.post(2, 0, 1, 1, 0, 4), 5), 1);
        due("two are charged", x.tried(0), 14);
    }

    /** "Before any ACT all is 0, but dead 3." */
    private static void beforeAnyAct() {
        InlandMails x = Land.of(2);
        Land.train(x, 0, 10, 10, 1, 20, 20);
        Land.act(x, 1, "charge 9; frank 9; dead 1; ship 5; sign 5; late 5 after 0;");
        for (int kind = 0; kind < 5; kind++) {
            int l = x.post(kind, 0, 1, 9, 99, 9);
            int[] want = {0, NONE, NONE, 0, 0, 0};
            for (int what = 0; what < 6; what++) {
                due("kind " + kind + ", charge what " + what, x.charge(l, what), want[what]);
            }
            x.nobody(l);
        }
        Land.upTo(x, 2 * 1440 + 1439);
        due("dead still", x.look(13), 5);
        x.minutes(1);
        due("burnt as the third day behind begins", x.look(16), 5);
    }

    /** "What was asked, and the CHARGE, stay as the LETTER was POSTED." */
    private static void asItWasPosted() {
        InlandMails x = Land.of(4);
        x.road(1, 2, 20);
        Land.act(x, 0, "charge miles + cross * 100 + hour * 1000;");
        int l = Land.letter(x, 1, 2);
        due("charged", x.charge(l, 0), 120);
        x.road(1, 2, 30);
        x.road(1, 0, 1);
        x.road(0, 2, 1);
        Land.upTo(x, 1440 + 60);
        due("tried by miles and hour of its posting", x.tried(0), 120);
        due("CROSS stays", x.of(l, 9), 1);
        Land.act(x, 0, "charge 5;");
        due("the CHARGE stays", x.charge(l, 0), 120);
        due("the ACT stays", x.charge(l, 1), 0);
        int m = Land.letter(x, 1, 2);
        due("a new one is charged anew", x.charge(m, 1), 1);
        due("tried: through the capital, at one o'clock", x.tried(0), 120 + 1002);
    }

    /** Promise 19: "NONE if there is none such, or another what." */
    private static void chargedByNone() {
        InlandMails x = Land.busy();
        for (int l : new int[] {LEAST, -1, 10, 119, 120, MOST}) {
            for (int what = 0; what < 6; what++) {
                due("no letter " + l, x.charge(l, what), NONE);
            }
        }
        for (int what : new int[] {LEAST, -1, 6, 10, MOST}) {
            due("another what", x.charge(0, what), NONE);
            due("another what of the last", x.charge(9, what), NONE);
        }
        due("the last", x.charge(9, 5), 1);
    }

    /** Promise 37: "NONE if there is none such." */
    private static void triedByNone() {
        InlandMails x = Land.of(2);
        for (int k = 0; k < 6; k++) {
            for (int other : new int[] {LEAST, -1, k, 6, MOST}) {
                due("no act " + other, x.tried(other), NONE);
            }
            Land.act(x, 6, "charge " + k + ";");
            due("no letters", x.tried(k), 0);
        }
        for (int n = 0; n < 120; n++) {
            Land.letter(x, 0, 1);
        }
        for (int k = 0; k < 6; k++) {
            due("by act " + k + ", whatever its DAY", x.tried(k), 120 * k);
        }
        due("no act 6", x.tried(6), NONE);
    }

    /** As much as may be charged, of as many letters as may be. */
    private static void mostOfAll() {
        InlandMails x = Land.of(2);
        Land.act(x, 0, "charge 9999 * 9999; late 9999 after 0; ship 9999; sign 9999;");
        x.minutes(1);
        for (int n = 0; n < 120; n++) {
            due("owed", x.charge(x.post(3, 0, 1, 9, 99, 9), 3), 119997);
        }
        due("tried", x.tried(0), 120L * 119997);
        due("OUT", x.account(0, 1, 0), 120 * 119997);
        due("IN", x.account(0, 1, 1), 0);
        due("they differ by all", x.account(0, 1, 2), 120);
        due("the last", x.account(0, 1, 129), 119);
        due("none behind it", x.account(0, 1, 130), NONE);
    }
}
