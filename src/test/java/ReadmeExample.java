/** Three towns, a train with a sorter aboard, an act, and a letter on its way. */
public final class ReadmeExample {
    public static void main(String[] args) {
        InlandMails mails = new InlandMails();
        int capital = mails.town();
        int market = mails.town();
        int port = mails.town();
        mails.road(capital, market, 50);
        mails.road(market, port, 30);

        int train = mails.train();
        mails.stop(train, capital, 60, 60, false);
        mails.stop(train, market, 120, 125, false);
        mails.stop(train, port, 180, 180, false);
        int sorter = mails.sorter(1, 1 << market | 1 << port);
        mails.seat(sorter, train);

        type(mails, "charge 4 + weight / 2 when miles < 60; charge 9 + sheets; late 2 after 600;");
        if (mails.act(0) == InlandMails.NONE) {
            System.out.println("fault " + mails.fault(0) + " at " + mails.fault(1));
        }

        int letter = mails.post(0, capital, port, 1, 5, 3);
        System.out.println("charge " + mails.charge(letter, 0) + " by line " + mails.charge(letter, 2));
        System.out.println("best way comes at " + mails.way(capital, 0, port, 0));

        mails.minutes(150);
        System.out.println("sorted aboard: " + mails.run(train, 0, 1));
        mails.minutes(30);
        for (int i = 0; mails.lead(letter, i, 0) != InlandMails.NONE; i++) {
            System.out.println("minute " + mails.lead(letter, i, 0) + ": state " + mails.lead(letter, i, 1)
                + ", place " + mails.lead(letter, i, 2));
        }
        System.out.println("owed " + mails.account(capital, port, 0) + ", come in "
            + mails.account(capital, port, 1));
    }

    /** Five numbers of four bytes each at a time; blanks behind the text are cut off by end(). */
    private static void type(InlandMails mails, String text) {
        mails.end(0);
        for (int from = 0; from < text.length(); from += 20) {
            int[] five = new int[5];
            for (int i = 0; i < 20; i++) {
                int sign = from + i < text.length() ? text.charAt(from + i) : ' ';
                five[i / 4] = five[i / 4] << 8 | sign;
            }
            mails.feed(five[0], five[1], five[2], five[3], five[4]);
        }
        mails.end(text.length());
    }
}
