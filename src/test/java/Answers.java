import java.util.ArrayList;
import java.util.List;

/** All that an object answers, for tests that a refused call does nothing. What is asked changes nothing. */
final class Answers {
    private Answers() {
    }

    static List<Long> of(InlandMails x) {
        List<Long> all = new ArrayList<>();
        for (int what = 0; what <= 16; what++) {
            all.add((long) x.look(what));
        }
        addTable(x, all);
        addActs(x, all);
        for (int l = 0; l < x.look(3); l++) {
            addLetter(x, l, all);
        }
        for (int k = 0; x.robbery(k, 0) != InlandMails.NONE; k++) {
            for (int what = 0; what < 10 + x.robbery(k, 2); what++) {
                all.add((long) x.robbery(k, what));
            }
        }
        all.add((long) x.whatIf(InlandMails.NONE, 0, 0));
        for (int what : new int[] {0, 10, 11}) {
            all.add((long) x.seats(what));
        }
        return all;
    }

    private static void addTable(InlandMails x, List<Long> all) {
        int towns = x.look(1);
        for (int a = 0; a < towns; a++) {
            for (int b = 0; b < towns; b++) {
                all.add((long) x.miles(a, b));
                for (int what = 0; what < 6; what++) {
                    all.add((long) x.way(a, x.look(0), b, what));
                }
                for (int what = 0; what < 10 + x.account(a, b, 2); what++) {
                    all.add((long) x.account(a, b, what));
                }
            }
        }
        for (int t = 0; t < x.look(2); t++) {
            addTrain(x, t, all);
        }
    }

    private static void addTrain(InlandMails x, int t, List<Long> all) {
        int stops = x.stopOf(t, InlandMails.NONE, 0);
        all.add((long) stops);
        for (int i = 0; i < stops; i++) {
            for (int what = 0; what < 4; what++) {
                all.add((long) x.stopOf(t, i, what));
            }
        }
        for (int d = 0; d < 7; d++) {
            for (int what = 0; what < 5; what++) {
                all.add((long) x.run(t, d, what));
            }
        }
        for (int what = 0; what < 3; what++) {
            all.add((long) x.clock(t, what));
        }
        all.add((long) x.trueMinute(t, x.look(0), 0));
        all.add((long) x.trueMinute(t, x.look(0), 1));
    }

    private static void addActs(InlandMails x, List<Long> all) {
        all.add((long) x.fault(0));
        all.add((long) x.fault(1));
        for (int k = 0; k < x.look(5); k++) {
            all.add(x.tried(k));
        }
        for (int day = 0; day < 7; day++) {
            for (int what = 0; what < 8; what++) {
                all.add((long) x.inForce(day, what));
            }
        }
    }

    private static void addLetter(InlandMails x, int l, List<Long> all) {
        for (int what = 0; what < 13; what++) {
            all.add((long) x.of(l, what));
        }
        for (int what = 0; what < 6; what++) {
            all.add((long) x.charge(l, what));
        }
        for (int i = 0; x.lead(l, i, 0) != InlandMails.NONE; i++) {
            for (int what = 0; what < 3; what++) {
                all.add((long) x.lead(l, i, what));
            }
        }
        for (int what = 0; what < 24; what++) {
            all.add(x.order(l, what));
        }
    }
}
