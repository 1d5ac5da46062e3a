/** Counts and prints the answers that are not those that are due. */
final class Due {
    private final String name;
    private int asked;
    private int wrong;

    Due(String name) {
        this.name = name;
    }

    void is(String call, long got, long want) {
        asked++;
        if (got != want) {
            wrong++;
            if (wrong <= 50) {
                System.out.println(name + ": " + call + " answered " + got + ", due is " + want);
            }
        }
    }

    void is(String call, boolean got, boolean want) {
        is(call, got ? 1 : 0, want ? 1 : 0);
    }

    boolean failed() {
        return wrong > 0;
    }

    /** Prints the count; a run with a wrong answer, or with none at all, ends with exit code 1. */
    void close() {
        System.out.println(name + ": " + asked + " answers, " + wrong + " wrong");
        if (wrong > 0 || asked == 0) {
            System.exit(1);
        }
    }

    /** The text on the tape, ready for act(). */
    static void type(InlandMails x, String text) {
        x.end(0);
        for (int i = 0; i < text.length(); i += 20) {
            int[] five = fiveOf(text, i);
            x.feed(five[0], five[1], five[2], five[3], five[4]);
        }
        x.end(text.length());
    }

    /** Five numbers of the twenty bytes from a place on, filled with blanks. */
    static int[] fiveOf(String text, int from) {
        int[] five = new int[5];
        for (int i = 0; i < 20; i++) {
            int c = from + i < text.length() ? text.charAt(from + i) & 255 : ' ';
            five[i / 4] = five[i / 4] << 8 | c;
        }
        return five;
    }
}
