import java.util.Random;

/** No call throws, whatever it is told: numbers of all sizes, in objects of all states. */
public final class AnyArgumentsTest {
    private static final Due DUE = new Due("AnyArgumentsTest");
    private static final int[] ODD = {
        Integer.MIN_VALUE, Integer.MIN_VALUE + 9, -1441, -1000, -11, -2, -1, 0, 1, 2, 3, 4, 6, 7, 8, 9, 10, 11, 12,
        13, 20, 22, 24, 69, 70, 79, 99, 100, 119, 120, 300, 301, 560, 600, 999, 1000, 1440, 2400, 3000, 4095, 4096,
        10079, 10080, 99999, 0x63686172, 0x67652028, 0x30203b20, Integer.MAX_VALUE - 9, Integer.MAX_VALUE
    };
    private final Random random;
    private final InlandMails x = new InlandMails();

    private AnyArgumentsTest(long seed) {
        random = new Random(seed);
    }

    public static void main(String[] args) {
        for (long seed = 1; seed <= 400; seed++) {
            AnyArgumentsTest test = new AnyArgumentsTest(seed);
            if (seed % 4 != 0) {
                test.furnish();
            }
            for (int n = 0; n < 450; n++) {
                test.call(test.random.nextInt(38));
            }
            int letters = 0;
            for (int state = 0; state <= 6; state++) {
                letters += test.x.look(10 + state);
            }
            DUE.is("letters in all states", letters, test.x.look(3));
            DUE.is("now is a minute", test.x.look(0) >= 0 && test.x.look(0) <= 10079, true);
        }
        DUE.close();
    }

    private int any() {
        if (random.nextInt(3) > 0) {
            return random.nextInt(8);
        }
        return random.nextInt(4) > 0 ? ODD[random.nextInt(ODD.length)] : random.nextInt();
    }

    private void furnish() {
        for (int a = 0; a < 6; a++) {
            x.town();
        }
        for (int t = 0; t < 6; t++) {
            x.train();
            for (int i = 0; i < 8; i++) {
                x.stop(t, random.nextInt(6), 40 * i + 7 * t, 40 * i + 7 * t, random.nextBoolean());
            }
        }
        Land.act(x, 0, "charge miles * sheets when not weight > 9; charge 5; frank 1; dead 1;");
        for (int l = 0; l < 20; l++) {
            Land.letter(x, random.nextInt(6), random.nextInt(6));
            Land.sorterIn(x, random.nextInt(6), 1 + random.nextInt(9), 4095);
            x.nobody(random.nextInt(20));
        }
    }

    private void call(int which) {
        if (which < 19) {
            callTelling(which);
        } else {
            callAsking(which);
        }
    }

    private void callTelling(int which) {
        switch (which) {
            case 0: x.town(); break;
            case 1: x.road(any(), any(), any()); break;
            case 2: x.train(); break;
            case 3: x.stop(any(), any(), any(), any(), random.nextBoolean()); break;
            case 4: x.late(any(), any(), any()); break;
            case 5: x.miss(any(), any(), any()); break;
            case 6: x.minutes(any()); break;
            case 7: x.feed(any(), any(), any(), any(), any()); break;
            case 8: x.end(any()); break;
            case 9: x.act(any()); break;
            case 10: x.post(any(), any(), any(), any(), any(), any()); break;
            case 11: x.sorter(any(), any()); break;
            case 12: x.seat(any(), any()); break;
            case 13: x.nobody(any()); break;
            case 14: x.place(any(), any(), any()); break;
            case 15: x.found(any(), any()); break;
            case 16: x.rob(any(), any()); break;
            case 17: x.set(any()); break;
            default: x.seen(any(), any()); break;
        }
    }

    private void callAsking(int which) {
        switch (which) {
            case 19: x.miles(any(), any()); break;
            case 20: x.stopOf(any(), any(), any()); break;
            case 21: x.look(any()); break;
            case 22: x.fault(any()); break;
            case 23: x.inForce(any(), any()); break;
            case 24: x.of(any(), any()); break;
            case 25: x.charge(any(), any()); break;
            case 26: x.way(any(), any(), any(), any()); break;
            case 27: x.lead(any(), any(), any()); break;
            case 28: x.where(any(), any(), any()); break;
            case 29: x.run(any(), any(), any()); break;
            case 30: x.account(any(), any(), any()); break;
            case 31: x.order(any(), any()); break;
            case 32: x.robbery(any(), any()); break;
            case 33: x.clock(any(), any()); break;
            case 34: x.trueMinute(any(), any(), any()); break;
            case 35: x.tried(any()); break;
            case 36: x.whatIf(any(), any(), any()); break;
            default: x.seats(any()); break;
        }
    }
}
