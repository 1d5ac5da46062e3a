import java.util.Arrays;

/** A land's inland mails: roads, trains, acts, letters, sorters, clocks. */
public final class InlandMails {
    /** There is none. */
    public static final int NONE = -1;

    private static final int TOWNS = 12;
    private static final int TRAINS = 10;
    private static final int STOPS = 8;
    private static final int DAYS = 7;
    private static final int DAY = 1440;
    private static final int LAST_MINUTE = 10079;
    private static final int RUNS = TRAINS * DAYS;
    private static final int LETTERS = 120;
    private static final int SORTERS = 8;
    private static final int ROBBERIES = 20;
    private static final int LATEST = 300;
    private static final int ABOVE_ALL_SUMS = LETTERS * (LAST_MINUTE + 1) + 1;

    private static final int HOLE = 0;
    private static final int ABOARD = 1;
    private static final int GIVEN = 2;
    private static final int DEAD = 3;
    private static final int ROBBED = 4;
    private static final int FOUND = 5;
    private static final int BURNT = 6;

    private static final int LETTER = 0;
    private static final int FRANK = 2;
    private static final int SHIP = 3;
    private static final int SIGNED = 4;

    private final Roads roads = new Roads();
    private final Table table = new Table();
    private final Ways ways = new Ways(table);
    private final Crew crew = new Crew();
    private final Statutes statutes = new Statutes();
    private final Letter[] letters = new Letter[LETTERS];
    private final Leads leads = new Leads(table, ways, letters);
    private final Bags bags = new Bags(table, ways, crew, letters, leads);
    private final Bags trial = new Bags(table, ways, crew, letters, null);
    private final Clock[] clocks = new Clock[TRAINS];
    private final int[] robbedRun = new int[ROBBERIES];
    private final int[] robbedAt = new int[ROBBERIES];
    private final int[] robberyOf = new int[LETTERS];
    private int robberyCount;
    private int now;
    private boolean bestKnown;
    private int bestSum;
    private int bestOne;
    private int bestTwo;

    /** All rows and parts are made here and in theirs: no call makes any. */
    public InlandMails() {
        for (int l = 0; l < LETTERS; l++) {
            letters[l] = new Letter();
        }
        for (int t = 0; t < TRAINS; t++) {
            clocks[t] = new Clock();
        }
    }

    public int town() {
        if (roads.count >= TOWNS) {
            return NONE;
        }
        roads.count++;
        return roads.count - 1;
    }

    public boolean road(int a, int b, int miles) {
        if (!roads.has(a) || !roads.has(b) || a == b || miles < 1 || miles > 999) {
            return false;
        }
        roads.lay(a, b, miles);
        return true;
    }

    public int miles(int a, int b) {
        if (!roads.has(a) || !roads.has(b)) {
            return NONE;
        }
        return roads.between(a, b);
    }

    public int train() {
        if (table.trains >= TRAINS) {
            return NONE;
        }
        bestKnown = false;
        table.trains++;
        return table.trains - 1;
    }

    public int stop(int t, int town, int comes, int goes, boolean fast) {
        if (now > 0 || !table.has(t) || !roads.has(town)) {
            return NONE;
        }
        int i = table.add(t, town, comes, goes, fast);
        if (i != NONE) {
            tableChanged();
        }
        return i;
    }

    public int stopOf(int t, int i, int what) {
        if (!table.has(t)) {
            return NONE;
        }
        if (i == NONE) {
            return what == 0 ? table.stops[t] : NONE;
        }
        if (i < 0 || i >= table.stops[t]) {
            return NONE;
        }
        int slot = STOPS * t + i;
        switch (what) {
            case 0: return table.town[slot];
            case 1: return table.comes[slot];
            case 2: return table.goes[slot];
            case 3: return table.fast[slot] ? 1 : 0;
            default: return NONE;
        }
    }

    public boolean late(int t, int d, int n) {
        if (!mayBeTold(t, d, n)) {
            return false;
        }
        table.delay[TRAINS * d + t] = n;
        tableChanged();
        return true;
    }

    public boolean miss(int t, int d, int i) {
        if (!table.hasRun(t, d) || i < 0 || i >= table.stops[t] - 1) {
            return false;
        }
        int run = TRAINS * d + t;
        if (!table.fast[STOPS * t + i] || table.isMissed(run, i) || table.comesAt(t, d, i) <= now) {
            return false;
        }
        table.missed[run] |= 1 << i;
        bestKnown = false;
        return true;
    }

    public int minutes(int n) {
        if (n < 1 || n > 3000 || now + n > LAST_MINUTE) {
            return NONE;
        }
        bestKnown = false;
        ways.refresh();
        bags.carry(now, now + n);
        now += n;
        return now;
    }

    public int look(int what) {
        if (what >= 10 && what <= 10 + BURNT) {
            return bags.inState(what - 10);
        }
        switch (what) {
            case 0: return now;
            case 1: return roads.count;
            case 2: return table.trains;
            case 3: return bags.count;
            case 4: return crew.count;
            case 5: return statutes.count;
            default: return NONE;
        }
    }

    public int feed(int a, int b, int c, int d, int e) {
        Reader tape = statutes.reader;
        if (tape.length + 20 > Reader.TAPE) {
            return NONE;
        }
        tape.take(a);
        tape.take(b);
        tape.take(c);
        tape.take(d);
        tape.take(e);
        return tape.length;
    }

    public boolean end(int n) {
        if (n < 0 || n > statutes.reader.length) {
            return false;
        }
        statutes.reader.length = n;
        return true;
    }

    public int act(int day) {
        if (!statutes.mayBegin(day)) {
            statutes.reader.drop();
            return NONE;
        }
        return statutes.reader.read(statutes.next(day)) ? statutes.add() : NONE;
    }

    public int fault(int what) {
        if (what == 0) {
            return statutes.reader.fault;
        }
        return what == 1 ? statutes.reader.faultPlace : NONE;
    }

    public int inForce(int day, int what) {
        if (day < 0 || day >= DAYS) {
            return NONE;
        }
        int k = statutes.numberOn(day);
        Act act = statutes.actOf(k);
        if (act == null) {
            return NONE;
        }
        switch (what) {
            case 0: return k;
            case 1: return act.lines;
            case 2: return act.lateMore;
            case 3: return act.lateAfter;
            case 4: return act.frank;
            case 5: return act.ship;
            case 6: return act.sign;
            case 7: return act.dead;
            default: return NONE;
        }
    }

    public int post(int kind, int from, int to, int sheets, int weight, int who) {
        if (kind < LETTER || kind > SIGNED || !roads.has(from) || !roads.has(to) || from == to) {
            return NONE;
        }
        if (sheets < 1 || sheets > 9 || weight < 0 || weight > 99 || who < 0 || who > 9) {
            return NONE;
        }
        if (bags.count >= LETTERS) {
            return NONE;
        }
        int l = bags.count;
        Letter letter = letters[l];
        letter.begin(kind, from, to, sheets, weight, who);
        letter.minute = now;
        letter.miles = Math.max(roads.between(from, to), 0);
        letter.cross = roads.isCross(from, to);
        letter.franksAhead = franksAhead(letter);
        statutes.price(letter);
        bags.begin(now, from);
        bestKnown = false;
        return l;
    }

    public int of(int l, int what) {
        Letter letter = letterOf(l);
        if (letter == null) {
            return NONE;
        }
        boolean aboard = bags.state[l] == ABOARD;
        switch (what) {
            case 0: return letter.kind;
            case 1: return letter.from;
            case 2: return letter.to;
            case 3: return letter.sheets;
            case 4: return letter.weight;
            case 5: return letter.who;
            case 6: return letter.minute;
            case 7: return bags.state[l];
            case 8: return bags.place[l];
            case 9: return letter.cross ? 1 : 0;
            case 10: return aboard && bags.sorted[l] ? 1 : 0;
            case 11: return aboard ? bags.goal[l] : NONE;
            case 12: return bags.left[l];
            default: return NONE;
        }
    }

    public int charge(int l, int what) {
        Letter letter = letterOf(l);
        if (letter == null) {
            return NONE;
        }
        switch (what) {
            case 0: return letter.charge;
            case 1: return letter.act;
            case 2: return letter.line;
            case 3: return letter.owed();
            case 4: return letter.charge - letter.owed();
            case 5: return letter.free ? 1 : 0;
            default: return NONE;
        }
    }

    public int way(int a, int minute, int b, int what) {
        if (!roads.has(a) || !roads.has(b) || a == b || minute < now || minute > LAST_MINUTE) {
            return NONE;
        }
        long best = ways.bestFrom(a, minute, b);
        if (best == Ways.NO_WAY) {
            return NONE;
        }
        switch (what) {
            case 0: return Ways.minuteOf(best);
            case 1: return Ways.runsOf(best);
            case 2: return Ways.trainOf(best);
            case 3: return Ways.dayOf(best);
            case 4: return Ways.takenOf(best);
            case 5: return Ways.leftOf(best);
            default: return NONE;
        }
    }

    public int lead(int l, int i, int what) {
        Letter letter = letterOf(l);
        if (letter == null || i < 0 || i >= letter.rowCount) {
            return NONE;
        }
        int row = leads.rowOf(l, i, now);
        switch (what) {
            case 0: return Letter.minuteOf(row);
            case 1: return Letter.stateOf(row);
            case 2: return Letter.placeOf(row);
            default: return NONE;
        }
    }

    public int where(int l, int minute, int what) {
        Letter letter = letterOf(l);
        if (letter == null || minute < letter.minute || minute > now) {
            return NONE;
        }
        int row = leads.rowOf(l, letter.rowCount - 1, minute);
        switch (what) {
            case 0: return Letter.stateOf(row);
            case 1: return Letter.placeOf(row);
            default: return NONE;
        }
    }

    public int sorter(int speed, int knows) {
        if (speed < 1 || speed > 99 || knows < 0 || knows >= 1 << TOWNS) {
            return NONE;
        }
        bestKnown = false;
        return crew.add(speed, knows);
    }

    public boolean seat(int s, int t) {
        if (s < 0 || s >= crew.count || (t != NONE && !table.has(t))) {
            return false;
        }
        crew.seat[s] = t;
        bestKnown = false;
        return true;
    }

    public int run(int t, int d, int what) {
        if (!table.hasRun(t, d)) {
            return NONE;
        }
        int run = TRAINS * d + t;
        switch (what) {
            case 0: return bags.aboardOf(run, false);
            case 1: return bags.aboardOf(run, true);
            case 2: return table.goneFrom(t, d, now);
            case 3: return bags.leftBy[run];
            case 4: return table.delay[run];
            default: return NONE;
        }
    }

    public int account(int a, int b, int what) {
        if (!roads.has(a) || !roads.has(b) || a == b) {
            return NONE;
        }
        switch (what) {
            case 0: return owedBetween(a, b, false);
            case 1: return owedBetween(a, b, true);
            case 2: return differing(a, b);
            default: return what < 10 ? NONE : differingLetter(a, b, what - 10);
        }
    }

    public boolean nobody(int l) {
        Letter letter = letterOf(l);
        if (letter == null || letter.nobody || bags.state[l] > ABOARD) {
            return false;
        }
        letter.nobody = true;
        bestKnown = false;
        return true;
    }

    public boolean place(int l, int town, int chance) {
        Letter letter = letterOf(l);
        if (letter == null || bags.state[l] != DEAD || !roads.has(town) || town == letter.to) {
            return false;
        }
        if (chance < 1 || chance > 99) {
            return false;
        }
        return letter.tell(town, chance);
    }

    public long order(int l, int what) {
        Letter letter = letterOf(l);
        if (letter == null) {
            return NONE;
        }
        if (what == 0) {
            return letter.places;
        }
        if (what == 1 || what == 2) {
            return letter.places == 0 ? NONE : letter.foundByAll(what == 1);
        }
        if (what >= 10 && what < 10 + letter.places) {
            return letter.placeTown(what - 10);
        }
        if (what >= 20 && what < 20 + letter.places) {
            return letter.placeChance(what - 20);
        }
        return NONE;
    }

    public boolean found(int l, int town) {
        Letter letter = letterOf(l);
        if (letter == null || bags.state[l] != DEAD || letter.rowOfPlace(town) == NONE) {
            return false;
        }
        bags.move(l, now, FOUND, town);
        bestKnown = false;
        return true;
    }

    public int rob(int t, int d) {
        if (!table.hasRun(t, d) || robberyCount >= ROBBERIES || !isUnderWay(t, d)) {
            return NONE;
        }
        int run = TRAINS * d + t;
        int k = robberyCount;
        robbedRun[k] = run;
        robbedAt[k] = now;
        robberyCount++;
        for (int l = 0; l < bags.count; l++) {
            if (bags.isAboard(l, run) && bags.sorted[l]) {
                robberyOf[l] = k;
                bags.move(l, now, ROBBED, run);
            }
        }
        bestKnown = false;
        return k;
    }

    public int robbery(int k, int what) {
        if (k < 0 || k >= robberyCount) {
            return NONE;
        }
        switch (what) {
            case 0: return robbedRun[k];
            case 1: return robbedAt[k];
            case 2: return taken(k);
            case 3: return owedOfTaken(k);
            default: return what < 10 ? NONE : takenLetter(k, what - 10);
        }
    }

    public boolean set(int t) {
        if (!table.has(t)) {
            return false;
        }
        clocks[t].setAt = now;
        return true;
    }

    public boolean seen(int t, int m) {
        if (!table.has(t) || m < 0 || m > LAST_MINUTE) {
            return false;
        }
        return clocks[t].learn(now, m);
    }

    public int clock(int t, int what) {
        if (!table.has(t)) {
            return NONE - 999;
        }
        switch (what) {
            case 0: return clocks[t].low;
            case 1: return clocks[t].high;
            case 2: return clocks[t].setAt;
            default: return NONE - 999;
        }
    }

    public int trueMinute(int t, int m, int what) {
        if (!table.has(t) || m < 0 || m > LAST_MINUTE) {
            return NONE;
        }
        switch (what) {
            case 0: return clocks[t].least(m);
            case 1: return clocks[t].greatest(m);
            default: return NONE;
        }
    }

    public long tried(int k) {
        Act act = statutes.actOf(k);
        if (act == null) {
            return NONE;
        }
        long sum = 0;
        for (int l = 0; l < bags.count; l++) {
            sum += statutes.chargeBy(act, letters[l]);
        }
        return sum;
    }

    public int whatIf(int t, int d, int n) {
        if (t == NONE) {
            return outcome();
        }
        if (!mayBeTold(t, d, n)) {
            return NONE;
        }
        int run = TRAINS * d + t;
        int told = table.delay[run];
        table.delay[run] = n;
        ways.fresh = false;
        int sum = outcome();
        table.delay[run] = told;
        ways.fresh = false;
        return sum;
    }

    public int seats(int what) {
        if (table.trains == 0 || crew.count == 0) {
            return NONE;
        }
        if (what != 0 && what != 10 && (what != 11 || crew.count < 2)) {
            return NONE;
        }
        if (!bestKnown) {
            seekSeats();
        }
        if (what == 0) {
            return bestSum;
        }
        return what == 10 ? bestOne : bestTwo;
    }

    private void tableChanged() {
        ways.fresh = false;
        bestKnown = false;
    }

    private boolean mayBeTold(int t, int d, int n) {
        return table.hasRun(t, d) && n >= 0 && n <= LATEST
            && table.stops[t] > 0 && DAY * d + table.goes[STOPS * t] > now;
    }

    private Letter letterOf(int l) {
        return l >= 0 && l < bags.count ? letters[l] : null;
    }

    private int franksAhead(Letter letter) {
        int franks = 0;
        for (int l = 0; l < bags.count; l++) {
            Letter other = letters[l];
            if (other.kind == FRANK && other.who == letter.who && other.dayOf() == letter.dayOf()) {
                franks++;
            }
        }
        return franks;
    }

    private boolean isBetween(int l, int a, int b) {
        return letters[l].from == a && letters[l].to == b;
    }

    private int owedBetween(int a, int b, boolean givenAlone) {
        int sum = 0;
        for (int l = 0; l < bags.count; l++) {
            if (isBetween(l, a, b) && (!givenAlone || bags.state[l] == GIVEN)) {
                sum += letters[l].owed();
            }
        }
        return sum;
    }

    private boolean differs(int l, int a, int b) {
        return isBetween(l, a, b) && letters[l].owed() > 0 && bags.state[l] != GIVEN;
    }

    private int differing(int a, int b) {
        int count = 0;
        for (int l = 0; l < bags.count; l++) {
            if (differs(l, a, b)) {
                count++;
            }
        }
        return count;
    }

    private int differingLetter(int a, int b, int i) {
        int count = 0;
        for (int l = 0; l < bags.count; l++) {
            if (differs(l, a, b)) {
                if (count == i) {
                    return l;
                }
                count++;
            }
        }
        return NONE;
    }

    private boolean isUnderWay(int t, int d) {
        int i = table.goneFrom(t, d, now);
        return i != NONE && table.comesAt(t, d, i + 1) > now;
    }

    private boolean isTaken(int l, int k) {
        return bags.state[l] == ROBBED && robberyOf[l] == k;
    }

    private int taken(int k) {
        int count = 0;
        for (int l = 0; l < bags.count; l++) {
            if (isTaken(l, k)) {
                count++;
            }
        }
        return count;
    }

    private int owedOfTaken(int k) {
        int sum = 0;
        for (int l = 0; l < bags.count; l++) {
            if (isTaken(l, k)) {
                sum += letters[l].owed();
            }
        }
        return sum;
    }

    private int takenLetter(int k, int i) {
        int count = 0;
        for (int l = 0; l < bags.count; l++) {
            if (isTaken(l, k)) {
                if (count == i) {
                    return l;
                }
                count++;
            }
        }
        return NONE;
    }

    private int outcome() {
        ways.refresh();
        trial.copy(bags);
        trial.carry(now, LAST_MINUTE);
        return trial.sumOfMinutes();
    }

    private void seekSeats() {
        int seatOne = crew.seat[0];
        int seatTwo = crew.seat[1];
        int seconds = crew.count > 1 ? table.trains : 1;
        bestSum = ABOVE_ALL_SUMS;
        for (int one = 0; one < table.trains; one++) {
            for (int two = 0; two < seconds; two++) {
                crew.seat[0] = one;
                crew.seat[1] = two;
                int sum = outcome();
                if (sum < bestSum) {
                    bestSum = sum;
                    bestOne = one;
                    bestTwo = two;
                }
            }
        }
        crew.seat[0] = seatOne;
        crew.seat[1] = seatTwo;
        bestKnown = true;
    }

    /** Towns and the roads between them. */
    private static final class Roads {
        private static final int FAR = 1000000;
        int count;
        private final int[] direct = new int[TOWNS * TOWNS];
        private final int[] least = new int[TOWNS * TOWNS];
        private final int[] roundCapital = new int[TOWNS * TOWNS];

        Roads() {
            Arrays.fill(direct, FAR);
            for (int a = 0; a < TOWNS; a++) {
                direct[TOWNS * a + a] = 0;
            }
            reckon(least, 0);
            reckon(roundCapital, 1);
        }

        boolean has(int town) {
            return town >= 0 && town < count;
        }

        void lay(int a, int b, int miles) {
            direct[TOWNS * a + b] = miles;
            direct[TOWNS * b + a] = miles;
            reckon(least, 0);
            reckon(roundCapital, 1);
        }

        int between(int a, int b) {
            int miles = least[TOWNS * a + b];
            return miles >= FAR ? NONE : miles;
        }

        boolean isCross(int from, int to) {
            int miles = least[TOWNS * from + to];
            return from != 0 && to != 0 && miles < FAR && roundCapital[TOWNS * from + to] == miles;
        }

        /** Towns below the first may begin or end a way, but none goes through them. */
        private void reckon(int[] miles, int first) {
            System.arraycopy(direct, 0, miles, 0, TOWNS * TOWNS);
            for (int k = first; k < TOWNS; k++) {
                for (int a = 0; a < TOWNS; a++) {
                    for (int b = 0; b < TOWNS; b++) {
                        int through = miles[TOWNS * a + k] + miles[TOWNS * k + b];
                        miles[TOWNS * a + b] = Math.min(miles[TOWNS * a + b], through);
                    }
                }
            }
        }
    }

    /** Trains, their stops, and what is told of each run. A run's number is 10 d + t. */
    private static final class Table {
        int trains;
        final int[] stops = new int[TRAINS];
        final int[] town = new int[TRAINS * STOPS];
        final int[] comes = new int[TRAINS * STOPS];
        final int[] goes = new int[TRAINS * STOPS];
        final boolean[] fast = new boolean[TRAINS * STOPS];
        final int[] delay = new int[RUNS];
        /** A bit for each stop. */
        final int[] missed = new int[RUNS];

        boolean has(int t) {
            return t >= 0 && t < trains;
        }

        boolean hasRun(int t, int d) {
            return has(t) && d >= 0 && d < DAYS;
        }

        boolean isMissed(int run, int i) {
            return (missed[run] >> i & 1) == 1;
        }

        int add(int t, int atTown, int coming, int going, boolean isFast) {
            int i = stops[t];
            if (i >= STOPS || coming < 0 || going < coming || going > 2400) {
                return NONE;
            }
            if (isFast && coming != going) {
                return NONE;
            }
            int slot = STOPS * t + i;
            if (i > 0 && (town[slot - 1] == atTown || coming <= goes[slot - 1])) {
                return NONE;
            }
            town[slot] = atTown;
            comes[slot] = coming;
            goes[slot] = going;
            fast[slot] = isFast;
            stops[t]++;
            return i;
        }

        int comesAt(int t, int d, int i) {
            return DAY * d + comes[STOPS * t + i] + delay[TRAINS * d + t];
        }

        int goesAt(int t, int d, int i) {
            return DAY * d + goes[STOPS * t + i] + delay[TRAINS * d + t];
        }

        /** From its last stop a run does not go, whatever GOES it was told there. */
        int goneFrom(int t, int d, int minute) {
            int gone = NONE;
            for (int i = 0; i < stops[t] - 1; i++) {
                if (goesAt(t, d, i) <= minute) {
                    gone = i;
                }
            }
            return gone;
        }
    }

    /**
     * The comings and goings in their order, and for each going the towns to which the best way
     * begins with it. A way is one number of which the lesser is the better: minute of coming,
     * runs, train, day, stop at which the first run is taken, stop at which it is left.
     */
    private static final class Ways {
        static final long NO_WAY = 1L << 62;
        private static final int GOING = 1 << 10;
        private static final int MOST = RUNS * 2 * (STOPS - 1);

        boolean fresh;
        int count;
        private final Table table;
        private final int[] keys = new int[MOST];
        /** Of each going three bits a town: where the best way that begins with it leaves the run, or 0. */
        private final long[] leaves = new long[RUNS * STOPS];
        /** While the goings are gone through: the best ways on for those in a run, and in a town. */
        private final long[] ride = new long[RUNS * TOWNS];
        private final long[] stay = new long[TOWNS * TOWNS];

        Ways(Table table) {
            this.table = table;
        }

        static int minuteOf(long way) {
            return (int) (way >> 21);
        }

        static int runsOf(long way) {
            return (int) (way >> 13) & 255;
        }

        static int trainOf(long way) {
            return (int) (way >> 9) & 15;
        }

        static int dayOf(long way) {
            return (int) (way >> 6) & 7;
        }

        static int takenOf(long way) {
            return (int) (way >> 3) & 7;
        }

        static int leftOf(long way) {
            return (int) way & 7;
        }

        void refresh() {
            if (fresh) {
                return;
            }
            collect();
            sortKeys();
            trace();
            fresh = true;
        }

        int keyAt(int e) {
            return e >= 0 && e < count ? keys[e] : 0;
        }

        int firstBehind(int minute) {
            for (int e = 0; e < count; e++) {
                if (minuteIn(keyAt(e)) > minute) {
                    return e;
                }
            }
            return count;
        }

        static int minuteIn(int key) {
            return key >> 11;
        }

        static boolean isGoing(int key) {
            return (key & GOING) != 0;
        }

        static int trainIn(int key) {
            return (key >> 6) & 15;
        }

        static int dayIn(int key) {
            return (key >> 3) & 7;
        }

        static int stopIn(int key) {
            return key & 7;
        }

        private int townIn(int key) {
            return table.town[STOPS * trainIn(key) + stopIn(key)];
        }

        static int slotIn(int key) {
            return STOPS * (TRAINS * (key >> 3 & 7) + (key >> 6 & 15)) + (key & 7);
        }

        /** The stop at which the best way that begins with this going leaves the run; 0 if none does. */
        int leftBehind(int key, int to) {
            return (int) (leaves[slotIn(key)] >> 3 * to) & 7;
        }

        /** The going with which the best way begins. */
        private int firstTaken(int town, int minute, int to) {
            for (int e = 0; e < count; e++) {
                int key = keys[e];
                if (isGoing(key) && minuteIn(key) >= minute && townIn(key) == town && leftBehind(key, to) > 0) {
                    return key;
                }
            }
            return NONE;
        }

        long bestFrom(int town, int minute, int to) {
            refresh();
            int first = firstTaken(town, minute, to);
            int key = first;
            for (int runs = 1; runs <= RUNS && key != NONE; runs++) {
                int left = leftBehind(key, to);
                int there = table.town[STOPS * trainIn(key) + left];
                int comes = table.comesAt(trainIn(key), dayIn(key), left);
                if (there == to) {
                    return (long) comes << 21 | runs << 13 | legOf(first) | stopIn(first) << 3 | leftBehind(first, to);
                }
                key = firstTaken(there, comes, to);
            }
            return NO_WAY;
        }

        private static int legOf(int key) {
            return trainIn(key) << 9 | dayIn(key) << 6;
        }

        private void collect() {
            count = 0;
            for (int t = 0; t < table.trains; t++) {
                for (int d = 0; d < DAYS; d++) {
                    for (int i = 0; i < table.stops[t]; i++) {
                        int place = t << 6 | d << 3 | i;
                        if (i > 0) {
                            addKey(table.comesAt(t, d, i), place);
                        }
                        if (i < table.stops[t] - 1) {
                            addKey(table.goesAt(t, d, i), GOING | place);
                        }
                    }
                }
            }
        }

        private void addKey(int minute, int rest) {
            if (minute <= LAST_MINUTE && count < MOST) {
                keys[count] = minute << 11 | rest;
                count++;
            }
        }

        private void sortKeys() {
            for (int gap = 364; gap > 0; gap /= 3) {
                for (int e = gap; e < count; e++) {
                    int key = keys[e];
                    int k = e;
                    for (; k >= gap && keys[k - gap] > key; k -= gap) {
                        keys[k] = keys[k - gap];
                    }
                    keys[k] = key;
                }
            }
        }

        /** From the last to the first, so that each way on is known before the run that leads to it. */
        private void trace() {
            Arrays.fill(leaves, 0);
            Arrays.fill(ride, NO_WAY);
            Arrays.fill(stay, NO_WAY);
            for (int e = count - 1; e >= 0; e--) {
                int key = keys[e];
                if (isGoing(key)) {
                    takeRun(key, townIn(key));
                } else {
                    leaveRun(key, townIn(key));
                }
            }
        }

        private void takeRun(int key, int town) {
            int slot = slotIn(key);
            for (int to = 0; to < TOWNS; to++) {
                long way = ride[TOWNS * (slot / STOPS) + to];
                if (way != NO_WAY) {
                    way += (long) stopIn(key) << 3;
                }
                int at = TOWNS * town + to;
                if (way < stay[at]) {
                    if (takenAt(stay[at]) == minuteIn(key)) {
                        leaves[slotOf(stay[at])] &= ~(7L << 3 * to);
                    }
                    leaves[slot] |= (way & 7) << 3 * to;
                    stay[at] = way;
                }
            }
        }

        private int takenAt(long way) {
            return way == NO_WAY ? NONE : table.goesAt(trainOf(way), dayOf(way), takenOf(way));
        }

        private static int slotOf(long way) {
            return STOPS * (TRAINS * dayOf(way) + trainOf(way)) + takenOf(way);
        }

        private void leaveRun(int key, int town) {
            int leg = legOf(key) | stopIn(key);
            for (int to = 0; to < TOWNS; to++) {
                long on = stay[TOWNS * town + to];
                long way = NO_WAY;
                if (to == town) {
                    way = (long) minuteIn(key) << 21 | 1 << 13 | leg;
                } else if (on != NO_WAY) {
                    way = ((on >> 13) + 1) << 13 | leg;
                }
                int at = TOWNS * (TRAINS * dayIn(key) + trainIn(key)) + to;
                ride[at] = Math.min(ride[at], way);
            }
        }
    }

    /** Sorters: their speeds, what they know, where they sit. */
    private static final class Crew {
        int count;
        final int[] seat = new int[SORTERS];
        private final int[] speed = new int[SORTERS];
        private final int[] knows = new int[SORTERS];
        private final int[] time = new int[SORTERS];

        int add(int itsSpeed, int itsTowns) {
            if (count >= SORTERS) {
                return NONE;
            }
            speed[count] = itsSpeed;
            knows[count] = itsTowns;
            seat[count] = NONE;
            count++;
            return count - 1;
        }

        boolean sitsIn(int t) {
            for (int s = 0; s < count; s++) {
                if (seat[s] == t) {
                    return true;
                }
            }
            return false;
        }

        void begin(int minutes) {
            for (int s = 0; s < count; s++) {
                time[s] = speed[s] * minutes;
            }
        }

        /** Whether one of the train had time for one letter to that town; it is spent then. */
        boolean sortsOne(int t, int town) {
            for (int s = 0; s < count; s++) {
                if (seat[s] == t && time[s] > 0 && (knows[s] >> town & 1) == 1) {
                    time[s]--;
                    return true;
                }
            }
            return false;
        }
    }

    /** One letter: what was told of it as it was posted, the last row of its lead, its places. */
    private static final class Letter {
        private static final int PLACES = 4;
        int kind;
        int from;
        int to;
        int sheets;
        int weight;
        int who;
        int minute;
        int miles;
        boolean cross;
        int franksAhead;
        int charge;
        int act = NONE;
        int line = NONE;
        boolean free;
        int deadDays = 3;
        boolean nobody;
        int rowCount;
        int lastRow;
        int places;
        private final int[] placeRows = new int[PLACES];

        void begin(int itsKind, int comesFrom, int goesTo, int itsSheets, int itsWeight, int sender) {
            kind = itsKind;
            from = comesFrom;
            to = goesTo;
            sheets = itsSheets;
            weight = itsWeight;
            who = sender;
        }

        int dayOf() {
            return minute / DAY;
        }

        int owed() {
            return kind == LETTER || kind == SHIP ? charge : 0;
        }

        void note(int atMinute, int state, int place) {
            lastRow = row(atMinute, state, place);
            rowCount++;
        }

        /** What becomes of it as it is put down in a town. */
        int stateIn(int town) {
            if (to != town) {
                return HOLE;
            }
            return nobody ? DEAD : GIVEN;
        }

        static int row(int atMinute, int state, int place) {
            return atMinute << 10 | state << 7 | place;
        }

        static int minuteOf(int row) {
            return row >> 10;
        }

        static int stateOf(int row) {
            return row >> 7 & 7;
        }

        static int placeOf(int row) {
            return row & 127;
        }

        /** The caller has seen that there is such a place. */
        int placeTown(int i) {
            return placeRows[i] & 15;
        }

        int placeChance(int i) {
            return 100 - (placeRows[i] >> 4);
        }

        int rowOfPlace(int town) {
            for (int i = 0; i < places; i++) {
                if (placeTown(i) == town) {
                    return i;
                }
            }
            return NONE;
        }

        /** A place's row is the lesser, the earlier it comes in the order: what its chance lacks, then its town. */
        boolean tell(int town, int chance) {
            int gap = rowOfPlace(town);
            if (gap == NONE) {
                if (places >= PLACES) {
                    return false;
                }
                gap = places;
                places++;
            }
            int row = (100 - chance) << 4 | town;
            for (; gap < places - 1 && placeRows[gap + 1] < row; gap++) {
                placeRows[gap] = placeRows[gap + 1];
            }
            for (; gap > 0 && placeRows[gap - 1] > row; gap--) {
                placeRows[gap] = placeRows[gap - 1];
            }
            placeRows[gap] = row;
            return true;
        }

        /** Found by trying all: above or below the line of the fraction. */
        long foundByAll(boolean above) {
            long below = 1;
            long missing = 1;
            for (int i = 0; i < places; i++) {
                below *= 100;
                missing *= 100 - placeChance(i);
            }
            long common = below;
            long rest = below - missing;
            for (int n = 0; n < 100 && rest > 0; n++) {
                long next = common % rest;
                common = rest;
                rest = next;
            }
            if (common == 0) {
                return NONE;
            }
            return (above ? below - missing : below) / common;
        }
    }

    /**
     * The leads of all letters. Each coming and each going has a bit for each letter that it moved,
     * so that however often letters change, there is room.
     */
    private static final class Leads {
        private static final int WORD = 64;
        private static final int WORDS = (LETTERS + WORD - 1) / WORD;
        private final long[] moved = new long[2 * WORDS * RUNS * STOPS];
        private final Table table;
        private final Ways ways;
        private final Letter[] letters;

        Leads(Table table, Ways ways, Letter[] letters) {
            this.table = table;
            this.ways = ways;
            this.letters = letters;
        }

        void mark(int key, int l) {
            moved[wordOf(key, l)] |= 1L << l % WORD;
        }

        private boolean isMarked(int key, int l) {
            return (moved[wordOf(key, l)] >> l % WORD & 1) == 1;
        }

        private static int wordOf(int key, int l) {
            int happening = 2 * Ways.slotIn(key) + (Ways.isGoing(key) ? 1 : 0);
            return WORDS * happening + l / WORD;
        }

        /** Row i, or the last one ahead of it that is not behind the minute. The caller has seen that both can be. */
        int rowOf(int l, int i, int minute) {
            Letter letter = letters[l];
            if (i == letter.rowCount - 1 && Letter.minuteOf(letter.lastRow) <= minute) {
                return letter.lastRow;
            }
            ways.refresh();
            int row = Letter.row(letter.minute, HOLE, letter.from);
            int n = 0;
            for (int e = ways.firstBehind(letter.minute); e < ways.count && n < i; e++) {
                int key = ways.keyAt(e);
                if (Ways.minuteIn(key) > minute) {
                    break;
                }
                if (isMarked(key, l)) {
                    row = rowBy(key, letter);
                    n++;
                }
            }
            return row;
        }

        private int rowBy(int key, Letter letter) {
            int t = Ways.trainIn(key);
            if (Ways.isGoing(key)) {
                return Letter.row(Ways.minuteIn(key), ABOARD, TRAINS * Ways.dayIn(key) + t);
            }
            int town = table.town[STOPS * t + Ways.stopIn(key)];
            return Letter.row(Ways.minuteIn(key), letter.stateIn(town), town);
        }
    }

    /**
     * Where each letter is, and what happens to it as minutes go by: the real bags, or those of a
     * trial, of which no lead is kept (null).
     */
    private static final class Bags {
        int count;
        final int[] state = new int[LETTERS];
        final int[] place = new int[LETTERS];
        final int[] goal = new int[LETTERS];
        final int[] left = new int[LETTERS];
        final boolean[] sorted = new boolean[LETTERS];
        final int[] leftBy = new int[RUNS];
        private final int[] since = new int[LETTERS];
        /** Counts of those in holes, aboard, and in either, to pass over what has none. */
        private final int[] inHole = new int[TOWNS];
        private final int[] aboard = new int[RUNS];
        private int moving;
        private final Table table;
        private final Ways ways;
        private final Crew crew;
        private final Letter[] letters;
        private final Leads leads;

        Bags(Table table, Ways ways, Crew crew, Letter[] letters, Leads leads) {
            this.table = table;
            this.ways = ways;
            this.crew = crew;
            this.letters = letters;
            this.leads = leads;
        }

        /** The next letter begins in the hole of the town where it is posted. */
        void begin(int minute, int town) {
            int l = count;
            count++;
            moving++;
            inHole[town]++;
            state[l] = HOLE;
            place[l] = town;
            letters[l].note(minute, HOLE, town);
        }

        void move(int l, int minute, int toState, int toPlace) {
            if (state[l] == HOLE) {
                inHole[place[l]]--;
                moving--;
            } else if (state[l] == ABOARD) {
                aboard[place[l]]--;
                moving--;
            }
            if (toState == HOLE) {
                inHole[toPlace]++;
                moving++;
            } else if (toState == ABOARD) {
                aboard[toPlace]++;
                moving++;
            }
            state[l] = toState;
            place[l] = toPlace;
            since[l] = minute;
            sorted[l] = false;
            if (leads != null) {
                letters[l].note(minute, toState, toPlace);
            }
        }

        boolean isAboard(int l, int run) {
            return state[l] == ABOARD && place[l] == run;
        }

        int inState(int which) {
            int n = 0;
            for (int l = 0; l < count; l++) {
                if (state[l] == which) {
                    n++;
                }
            }
            return n;
        }

        int aboardOf(int run, boolean isSorted) {
            int n = 0;
            for (int l = 0; l < count; l++) {
                if (isAboard(l, run) && sorted[l] == isSorted) {
                    n++;
                }
            }
            return n;
        }

        void copy(Bags other) {
            count = other.count;
            moving = other.moving;
            System.arraycopy(other.state, 0, state, 0, LETTERS);
            System.arraycopy(other.place, 0, place, 0, LETTERS);
            System.arraycopy(other.goal, 0, goal, 0, LETTERS);
            System.arraycopy(other.left, 0, left, 0, LETTERS);
            System.arraycopy(other.since, 0, since, 0, LETTERS);
            System.arraycopy(other.sorted, 0, sorted, 0, LETTERS);
            System.arraycopy(other.leftBy, 0, leftBy, 0, RUNS);
            System.arraycopy(other.aboard, 0, aboard, 0, RUNS);
            System.arraycopy(other.inHole, 0, inHole, 0, TOWNS);
        }

        int sumOfMinutes() {
            int sum = 0;
            for (int l = 0; l < count; l++) {
                if (state[l] == GIVEN) {
                    sum += since[l];
                } else if (state[l] == HOLE || state[l] == ABOARD) {
                    sum += LAST_MINUTE + 1;
                }
            }
            return sum;
        }

        /** All that happens behind one minute, up to another one. The ways are fresh. */
        void carry(int from, int upTo) {
            int day = from / DAY + 1;
            for (int e = ways.firstBehind(from); e < ways.count && moving > 0; e++) {
                int key = ways.keyAt(e);
                int minute = Ways.minuteIn(key);
                if (minute > upTo) {
                    break;
                }
                for (; day * DAY <= minute; day++) {
                    burn(day);
                }
                if (Ways.isGoing(key)) {
                    goes(key, minute);
                } else {
                    comes(key, minute);
                }
            }
            for (; day * DAY <= upTo; day++) {
                burn(day);
            }
        }

        private void burn(int day) {
            for (int l = 0; l < count; l++) {
                if (state[l] == DEAD && day - since[l] / DAY >= letters[l].deadDays) {
                    move(l, day * DAY, BURNT, place[l]);
                }
            }
        }

        private void comes(int key, int minute) {
            int t = Ways.trainIn(key);
            int i = Ways.stopIn(key);
            int run = TRAINS * Ways.dayIn(key) + t;
            if (aboard[run] == 0 || table.isMissed(run, i)) {
                return;
            }
            boolean last = i == table.stops[t] - 1;
            int town = table.town[STOPS * t + i];
            for (int l = 0; l < count; l++) {
                boolean wanted = last || (sorted[l] && goal[l] <= i);
                if (wanted && isAboard(l, run)) {
                    if (!sorted[l]) {
                        left[l]++;
                        leftBy[run]++;
                    }
                    move(l, minute, letters[l].stateIn(town), town);
                    if (leads != null) {
                        leads.mark(key, l);
                    }
                }
            }
        }

        private void goes(int key, int minute) {
            int t = Ways.trainIn(key);
            int i = Ways.stopIn(key);
            int run = TRAINS * Ways.dayIn(key) + t;
            int town = table.town[STOPS * t + i];
            if (inHole[town] > 0 && !table.isMissed(run, i)) {
                for (int l = 0; l < count; l++) {
                    int goesTo = state[l] == HOLE && place[l] == town ? ways.leftBehind(key, letters[l].to) : 0;
                    if (goesTo > 0) {
                        move(l, minute, ABOARD, run);
                        goal[l] = goesTo;
                        if (leads != null) {
                            leads.mark(key, l);
                        }
                    }
                }
            }
            if (aboard[run] > 0 && crew.sitsIn(t)) {
                sort(run, t, i);
            }
        }

        private void sort(int run, int t, int i) {
            if (i + 1 >= table.stops[t]) {
                return;
            }
            crew.begin(table.comes[STOPS * t + i + 1] - table.goes[STOPS * t + i]);
            for (int stop = 0; stop < table.stops[t]; stop++) {
                int town = table.town[STOPS * t + stop];
                for (int l = 0; l < count; l++) {
                    if (isAboard(l, run) && !sorted[l] && goal[l] == stop) {
                        sorted[l] = crew.sortsOne(t, town);
                    }
                }
            }
        }
    }

    /** A guard's clock: when it was set, and what it may gain, in seconds an hour. */
    private static final class Clock {
        int setAt;
        int low = -60;
        int high = 60;

        /** Minutes are gained by 3600 for a second an hour; the product is never below 0. */
        private static int shown(int minutes, int gain) {
            return minutes * (3600 + gain) / 3600;
        }

        boolean learn(int now, int m) {
            int least = NONE - 999;
            int most = NONE - 999;
            for (int gain = low; gain <= high; gain++) {
                if (shown(now - setAt, gain) == m - setAt) {
                    least = least == NONE - 999 ? gain : least;
                    most = gain;
                }
            }
            if (least == NONE - 999) {
                return false;
            }
            low = least;
            high = most;
            return true;
        }

        private boolean mayShow(int minutes, int wanted) {
            if (shown(minutes, low) > wanted || shown(minutes, high) < wanted) {
                return false;
            }
            for (int gain = low; gain <= high; gain++) {
                if (shown(minutes, gain) == wanted) {
                    return true;
                }
            }
            return false;
        }

        int least(int m) {
            for (int minute = setAt; minute <= LAST_MINUTE; minute++) {
                if (mayShow(minute - setAt, m - setAt)) {
                    return minute;
                }
            }
            return NONE;
        }

        int greatest(int m) {
            for (int minute = LAST_MINUTE; minute >= setAt; minute--) {
                if (mayShow(minute - setAt, m - setAt)) {
                    return minute;
                }
            }
            return NONE;
        }
    }

    /** An act as it was read. The codes of its charge lines stand in the reader's row, each up to an END. */
    private static final class Act {
        static final int LINES = 24;
        static final int END = -100;
        static final int ADD = -10;
        static final int TAKE = -11;
        static final int TIMES = -12;
        static final int PART = -13;
        static final int LESS = -14;
        static final int SAME = -15;
        static final int MORE = -16;
        static final int NOT = -17;
        static final int AND = -18;
        static final int OR = -19;

        int day;
        int lines;
        int lateMore;
        int lateAfter;
        int frank;
        int ship;
        int sign;
        int dead;
        int chargeLines;
        final int[] chargeAt = new int[LINES];
        final int[] whenAt = new int[LINES];

        /** A text that was refused may have left something. */
        void begin(int fromDay) {
            day = fromDay;
            lines = 0;
            lateMore = 0;
            lateAfter = 1439;
            frank = 0;
            ship = 0;
            sign = 0;
            dead = 3;
            chargeLines = 0;
        }
    }

    /** The acts, and charges by them. */
    private static final class Statutes {
        static final int ACTS = 6;
        private static final int MOST_CHARGE = 99999;
        final Reader reader = new Reader();
        int count;
        private final Act[] acts = new Act[ACTS];
        private final int[] asked = new int[7];
        private final int[] stack = new int[64];

        Statutes() {
            for (int k = 0; k < ACTS; k++) {
                acts[k] = new Act();
            }
        }

        boolean mayBegin(int day) {
            int least = count > 0 ? acts[count - 1].day : 0;
            return count < ACTS && day >= least && day < DAYS;
        }

        /** The caller has seen that one may begin on that day. */
        Act next(int day) {
            acts[count].begin(day);
            return acts[count];
        }

        int add() {
            count++;
            return count - 1;
        }

        Act actOf(int k) {
            return k >= 0 && k < count ? acts[k] : null;
        }

        int numberOn(int day) {
            int number = NONE;
            for (int k = 0; k < count; k++) {
                if (acts[k].day <= day) {
                    number = k;
                }
            }
            return number;
        }

        void price(Letter letter) {
            letter.act = numberOn(letter.dayOf());
            Act act = actOf(letter.act);
            if (act == null) {
                return;
            }
            letter.deadDays = act.dead;
            letter.free = isFree(act, letter);
            letter.charge = chargeBy(act, letter);
            letter.line = letter.free ? NONE : lineFor(act, letter);
        }

        int chargeBy(Act act, Letter letter) {
            if (isFree(act, letter)) {
                return 0;
            }
            int line = lineFor(act, letter);
            int sum = 0;
            if (line != NONE) {
                sum = Math.min(Math.max(worth(act.chargeAt[line]), 0), MOST_CHARGE);
            }
            if (letter.minute % DAY > act.lateAfter) {
                sum += act.lateMore;
            }
            if (letter.kind == SHIP) {
                sum += act.ship;
            }
            if (letter.kind == SIGNED) {
                sum += act.sign;
            }
            return sum;
        }

        private static boolean isFree(Act act, Letter letter) {
            return letter.kind == FRANK && letter.franksAhead < act.frank;
        }

        private int lineFor(Act act, Letter letter) {
            ask(letter);
            for (int i = 0; i < act.chargeLines; i++) {
                if (act.whenAt[i] == NONE || worth(act.whenAt[i]) != 0) {
                    return i;
                }
            }
            return NONE;
        }

        /** In the order of the reader's words from miles to cross. */
        private void ask(Letter letter) {
            asked[0] = letter.miles;
            asked[1] = letter.sheets;
            asked[2] = letter.weight;
            asked[3] = letter.minute % DAY / 60;
            asked[4] = letter.dayOf();
            asked[5] = letter.kind;
            asked[6] = letter.cross ? 1 : 0;
        }

        private int worth(int at) {
            int top = 0;
            for (int p = at; p < Reader.MOST_CODES && reader.codeAt(p) != Act.END; p++) {
                int op = reader.codeAt(p);
                if (op > Act.ADD) {
                    if (top >= stack.length || -1 - op >= asked.length) {
                        return 0;
                    }
                    stack[top] = op >= 0 ? op : asked[-1 - op];
                    top++;
                } else if (op == Act.NOT && top > 0) {
                    stack[top - 1] = 1 - stack[top - 1];
                } else if (top > 1) {
                    top--;
                    stack[top - 1] = joined(op, stack[top - 1], stack[top]);
                }
            }
            return top > 0 ? stack[top - 1] : 0;
        }

        private static int joined(int op, int a, int b) {
            switch (op) {
                case Act.ADD: return a + b;
                case Act.TAKE: return a - b;
                case Act.TIMES: return a * b;
                case Act.PART: return b == 0 ? 0 : a / b;
                case Act.LESS: return a < b ? 1 : 0;
                case Act.SAME: return a == b ? 1 : 0;
                case Act.MORE: return a > b ? 1 : 0;
                case Act.AND: return a & b;
                case Act.OR: return a | b;
                default: return 0;
            }
        }
    }

    /** The tape, and the reading of it as an act's text. */
    private static final class Reader {
        static final int TAPE = 600;
        static final int MOST_CODES = TAPE * Statutes.ACTS;
        private static final int OPEN = 8;
        private static final int CHARGE_WORD = 0;
        private static final int LATE_WORD = 1;
        private static final int FRANK_WORD = 2;
        private static final int SHIP_WORD = 3;
        private static final int SIGN_WORD = 4;
        private static final int DEAD_WORD = 5;
        private static final int MILES_WORD = 6;
        private static final int CROSS_WORD = 12;
        private static final int WHEN_WORD = 13;
        private static final int AFTER_WORD = 14;
        private static final int NOT_WORD = 15;
        private static final int AND_WORD = 16;
        private static final int OR_WORD = 17;
        private static final int NUMBER = 18;
        private static final int TEXT_END = 19;
        private static final int NO_TOKEN = 20;
        /** charge late frank ship sign dead, miles sheets weight hour day kind cross, when after not and or. */
        private static final long[] WORDS = {
            0x636861726765L, 0x6c617465L, 0x6672616e6bL, 0x73686970L, 0x7369676eL, 0x64656164L,
            0x6d696c6573L, 0x736865657473L, 0x776569676874L, 0x686f7572L, 0x646179L, 0x6b696e64L,
            0x63726f7373L, 0x7768656eL, 0x6166746572L, 0x6e6f74L, 0x616e64L, 0x6f72L
        };

        int length;
        int fault;
        int faultPlace = NONE;
        private final int[] tape = new int[TAPE];
        /** Of each token: its kind (a sign is its own byte), from bit 7 its place, from bit 17 a number's worth. */
        private final int[] tokens = new int[TAPE + 1];
        private int count;
        private int current;
        private int token;
        /** The codes of all acts, one behind the other, four in a long: none has more than its text has signs. */
        private final long[] codes = new long[MOST_CODES / 4];
        private int used;

        void take(int four) {
            for (int shift = 24; shift >= 0; shift -= 8) {
                if (length < TAPE) {
                    tape[length] = four >> shift & 255;
                    length++;
                }
            }
        }

        void drop() {
            length = 0;
            fault = 0;
            faultPlace = NONE;
        }

        /** Whether the tape tells an act: else the fault is known. The tape is empty behind it. */
        boolean read(Act act) {
            int before = used;
            scan();
            drop();
            current = 0;
            token = tokens[0] & 127;
            boolean good = true;
            for (int n = 0; n <= TAPE && good && token != TEXT_END; n++) {
                if (token > DEAD_WORD) {
                    refuse(1);
                } else if (act.lines >= Act.LINES) {
                    refuse(3);
                } else if (token == CHARGE_WORD) {
                    act.lines++;
                    readCharge(act);
                } else {
                    act.lines++;
                    readRule(act);
                }
                good = fault == 0 && skip(';');
            }
            if (!good) {
                used = before;
            }
            return good;
        }

        private boolean readRule(Act act) {
            int word = token;
            step();
            if (token != NUMBER) {
                return refuse(1);
            }
            int number = value();
            if (word == FRANK_WORD && number > 99) {
                return refuse(2);
            }
            step();
            switch (word) {
                case LATE_WORD: return readAfter(act, number);
                case FRANK_WORD: act.frank = number; break;
                case SHIP_WORD: act.ship = number; break;
                case SIGN_WORD: act.sign = number; break;
                default: act.dead = number; break;
            }
            return true;
        }

        private boolean readAfter(Act act, int more) {
            if (!skip(AFTER_WORD)) {
                return false;
            }
            if (token != NUMBER) {
                return refuse(1);
            }
            if (value() > 1439) {
                return refuse(2);
            }
            act.lateMore = more;
            act.lateAfter = value();
            step();
            return true;
        }

        private boolean readCharge(Act act) {
            int k = act.chargeLines;
            if (k >= Act.LINES) {
                return refuse(3);
            }
            act.chargeLines++;
            act.chargeAt[k] = used;
            act.whenAt[k] = NONE;
            step();
            if (!readSum(0)) {
                return false;
            }
            put(Act.END);
            if (token != WHEN_WORD) {
                return true;
            }
            step();
            act.whenAt[k] = used;
            boolean good = readWhen();
            put(Act.END);
            return good;
        }

        /** An and is put as its second part stands, an or as the next or comes, or at the end. */
        private boolean readWhen() {
            boolean orOpen = false;
            int joint = WHEN_WORD;
            for (int n = 0; n <= TAPE; n++) {
                int nots = readNots();
                if (nots == NONE || !readSum(nots)) {
                    return false;
                }
                int op = comparison();
                if (op == NONE) {
                    return refuse(1);
                }
                step();
                if (!readSum(nots)) {
                    return false;
                }
                put(op);
                if (nots % 2 == 1) {
                    put(Act.NOT);
                }
                if (joint == AND_WORD) {
                    put(Act.AND);
                }
                joint = token;
                if (joint != AND_WORD) {
                    if (orOpen) {
                        put(Act.OR);
                    }
                    orOpen = joint == OR_WORD;
                    if (!orOpen) {
                        return true;
                    }
                }
                step();
            }
            return false;
        }

        /** How many nots stand here; all are open till the comparison behind them ends. */
        private int readNots() {
            int nots = 0;
            for (; nots <= OPEN && token == NOT_WORD; nots++) {
                if (nots == OPEN) {
                    refuse(3);
                    return NONE;
                }
                step();
            }
            return nots;
        }

        private int comparison() {
            switch (token) {
                case '<': return Act.LESS;
                case '=': return Act.SAME;
                case '>': return Act.MORE;
                default: return NONE;
            }
        }

        /** Open are the brackets and nots around this place: 8 at most, which ends the recursion. */
        private boolean readSum(int open) {
            if (!readProduct(open)) {
                return false;
            }
            for (int n = 0; n <= TAPE && (token == '+' || token == '-'); n++) {
                int op = token == '+' ? Act.ADD : Act.TAKE;
                step();
                if (!readProduct(open)) {
                    return false;
                }
                put(op);
            }
            return true;
        }

        private boolean readProduct(int open) {
            if (!readUnit(open)) {
                return false;
            }
            for (int n = 0; n <= TAPE && (token == '*' || token == '/'); n++) {
                boolean part = token == '/';
                step();
                if (part && token != NUMBER) {
                    return refuse(1);
                }
                if (part && value() == 0) {
                    return refuse(2);
                }
                if (!readUnit(open)) {
                    return false;
                }
                put(part ? Act.PART : Act.TIMES);
            }
            return true;
        }

        private boolean readUnit(int open) {
            if (token == NUMBER) {
                put(value());
                step();
                return true;
            }
            if (token >= MILES_WORD && token <= CROSS_WORD) {
                put(-1 - (token - MILES_WORD));
                step();
                return true;
            }
            if (token != '(') {
                return refuse(1);
            }
            if (open >= OPEN) {
                return refuse(3);
            }
            step();
            if (!readSum(open + 1)) {
                return false;
            }
            if (token != ')') {
                return refuse(1);
            }
            step();
            return true;
        }

        private boolean skip(int wanted) {
            if (token != wanted) {
                return refuse(1);
            }
            step();
            return true;
        }

        /** The last token is the text's end, behind which none is asked. */
        private void step() {
            if (current < count - 1) {
                current++;
            }
            token = tokens[current] & 127;
        }

        private boolean refuse(int which) {
            fault = which;
            faultPlace = tokens[current] >> 7 & 1023;
            return false;
        }

        private void put(int op) {
            if (used < MOST_CODES) {
                int shift = 16 * (used % 4);
                codes[used / 4] = codes[used / 4] & ~(0xffffL << shift) | (op & 0xffffL) << shift;
                used++;
            }
        }

        int codeAt(int p) {
            return p >= 0 && p < MOST_CODES ? (short) (codes[p / 4] >> 16 * (p % 4)) : Act.END;
        }

        /** Of the token that is a number. */
        private int value() {
            return tokens[current] >> 17;
        }

        private void scan() {
            count = 0;
            for (int i = 0; i < length; i++) {
                int c = tape[i];
                if (isLetter(c)) {
                    if (i == 0 || !isLetter(tape[i - 1])) {
                        scanWord(i);
                    }
                } else if (isDigit(c)) {
                    if (i == 0 || !isDigit(tape[i - 1])) {
                        scanNumber(i);
                    }
                } else if (c != ' ' && c != '\n') {
                    addToken(isSign(c) ? c : NO_TOKEN, i, 0);
                }
            }
            addToken(TEXT_END, length, 0);
        }

        private void addToken(int kind, int start, int value) {
            if (count < tokens.length) {
                tokens[count] = value << 17 | start << 7 | kind;
                count++;
            }
        }

        /** Words have up to six letters, which a long holds; longer ones are none. */
        private void scanWord(int start) {
            long word = 0;
            for (int i = start; i < length && isLetter(tape[i]); i++) {
                word = i - start < 6 ? word << 8 | tape[i] : NONE;
            }
            int kind = NO_TOKEN;
            for (int w = 0; w < WORDS.length; w++) {
                if (WORDS[w] == word) {
                    kind = w;
                }
            }
            addToken(kind, start, 0);
        }

        private void scanNumber(int start) {
            int value = 0;
            for (int i = start; i < length && isDigit(tape[i]); i++) {
                value = i - start < 4 ? value * 10 + tape[i] - '0' : NONE;
            }
            addToken(value == NONE ? NO_TOKEN : NUMBER, start, Math.max(value, 0));
        }

        private static boolean isLetter(int c) {
            return (c >= 'a' && c <= 'z') || (c >= 'A' && c <= 'Z');
        }

        private static boolean isDigit(int c) {
            return c >= '0' && c <= '9';
        }

        private static boolean isSign(int c) {
            switch (c) {
                case ';': case '+': case '-': case '*': case '/':
                case '(': case ')': case '<': case '=': case '>': return true;
                default: return false;
            }
        }
    }
}
