/** Small lands for the tests by hand. */
final class Land {
    static final int NONE = InlandMails.NONE;

    private Land() {
    }

    static InlandMails of(int towns) {
        InlandMails x = new InlandMails();
        for (int a = 0; a < towns; a++) {
            x.town();
        }
        return x;
    }

    /** A train of stops that are not fast, each told as town, comes, goes. */
    static int train(InlandMails x, int... told) {
        int t = x.train();
        for (int i = 0; i < told.length; i += 3) {
            if (x.stop(t, told[i], told[i + 1], told[i + 2], false) != i / 3) {
                throw new IllegalStateException("a stop that can't be");
            }
        }
        return t;
    }

    static int act(InlandMails x, int day, String text) {
        Due.type(x, text);
        return x.act(day);
    }

    static int letter(InlandMails x, int from, int to) {
        return x.post(0, from, to, 1, 0, 0);
    }

    static int sorterIn(InlandMails x, int t, int speed, int knows) {
        int s = x.sorter(speed, knows);
        x.seat(s, t);
        return s;
    }

    /** Minutes go by up to one, however far. */
    static void upTo(InlandMails x, int minute) {
        while (x.look(0) < minute) {
            x.minutes(Math.min(3000, minute - x.look(0)));
        }
    }
}
