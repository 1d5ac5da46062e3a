/** Small lands for the tests by hand. */
final class Land {
    static final int NONE = InlandMails.NONE;

    private Land() {
    }

    static InlandMails of(int towns) {
        InlandMails x = new InlandMails();
        for (int a = 0; a < towns; a++) {
            x.town();
        }
        return x;
    }

    /** A train of stops that are not fast, each told as town, comes, goes. */
    static int train(InlandMails x, int... told) {
        int t = x.train();
        for (int i = 0; i < told.length; i += 3) {
            if (x.stop(t, told[i], told[i + 1], told[i + 2], false) != i / 3) {
                throw new IllegalStateException("a stop that can't be");
            }
        }
        return t;
    }

    static int act(InlandMails x, int day, String text) {
        Due.type(x, text);
        return x.act(day);
    }

    static int letter(InlandMails x, int from, int to) {
        return x.post(0, from, to, 1, 0, 0);
    }

    static int sorterIn(InlandMails x, int t, int speed, int knows) {
        int s = x.sorter(speed, knows);
        x.seat(s, t);
        return s;
    }

    /** Minutes go by up to one, however far. */
    static void upTo(InlandMails x, int minute) {
        while (x.look(0) < minute) {
            x.minutes(Math.min(3000, minute - x.look(0)));
        }
    }

    /** At this minute a busy land rests: a minute ahead of it train 0 went from its first stop. */
    static final int BUSY = 2 * 1440 + 61;

    /**
     * Six towns, four trains (the last without stops), two acts, three sorters, three robberies, a clock
     * seen, and letters in all states: 0 burnt, 1 found, 2 given, 3 robbed, 4 in a hole, 5 dead with two
     * places, 6 dead with four, 7 aboard raw, 8 aboard sorted, 9 a free frank in a hole.
     */
    static InlandMails busy() {
        InlandMails x = young();
        letter(x, 0, 2);
        letter(x, 0, 2);
        letter(x, 0, 2);
        letter(x, 3, 1);
        letter(x, 4, 5);
        x.nobody(0);
        x.nobody(1);
        x.minutes(60);
        x.rob(2, 0);
        x.set(0);
        x.minutes(1000);
        x.seen(0, 1063);
        x.place(1, 1, 50);
        x.found(1, 1);
        busyDays(x);
        return x;
    }

    /** The same land at minute 0, ahead of its first letter. */
    static InlandMails young() {
        InlandMails x = of(6);
        x.road(0, 1, 50);
        x.road(1, 2, 30);
        x.road(0, 2, 100);
        x.road(2, 3, 20);
        train(x, 0, 60, 60, 1, 120, 125, 2, 180, 190);
        x.stop(0, 3, 240, 240, true);
        train(x, 1, 100, 130, 3, 170, 170);
        train(x, 3, 50, 50);
        x.stop(2, 2, 100, 100, true);
        x.stop(2, 1, 150, 150, true);
        x.stop(2, 0, 200, 205, false);
        x.train();
        act(x, 0, "charge 4 when sheets = 2; charge miles / 10; late 3 after 600; frank 1; ship 4; sign 5; dead 1;");
        sorterIn(x, 0, 1, 5);
        sorterIn(x, 2, 1, 2);
        x.sorter(9, 63);
        return x;
    }

    private static void busyDays(InlandMails x) {
        act(x, 1, "charge 2; dead 3; frank 1;");
        upTo(x, 1440);
        letter(x, 0, 2);
        letter(x, 0, 2);
        x.nobody(5);
        x.nobody(6);
        x.late(0, 1, 5);
        upTo(x, 1440 + 1000);
        x.place(5, 0, 40);
        x.place(5, 1, 30);
        for (int town = 0; town < 5; town++) {
            x.place(6, town, 10 + town);
        }
        upTo(x, BUSY - 10);
        letter(x, 0, 1);
        letter(x, 0, 2);
        x.post(2, 5, 4, 1, 0, 9);
        x.late(0, 3, 7);
        x.miss(2, 3, 1);
        x.seat(2, 2);
        upTo(x, BUSY);
        x.rob(2, 2);
        x.rob(2, 2);
    }
}
