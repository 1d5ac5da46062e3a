import java.math.BigInteger;
import java.util.ArrayList;
import java.util.Comparator;
import java.util.HashSet;
import java.util.List;
import java.util.Set;
import java.util.TreeMap;

/**
 * The document told once more in the slowest and plainest way, minute by minute and without
 * tables, for RandomRunsTest to hold InlandMails against. It shares no code with it.
 */
final class PlainMails {
    static final int NONE = -1;

    static final class Stop {
        int town;
        int comes;
        int goes;
        boolean fast;
    }

    static final class Train {
        final List<Stop> stops = new ArrayList<>();
        final int[] late = new int[7];
        final Set<Integer> missed = new HashSet<>();
        final int[] leftBy = new int[7];
        int low = -60;
        int high = 60;
        int setAt;
    }

    static final class Sorter {
        int speed;
        int knows;
        int train = NONE;
    }

    static final class Letter implements Cloneable {
        int number;
        int kind;
        int from;
        int to;
        int sheets;
        int weight;
        int who;
        int minute;
        int miles;
        boolean cross;
        int act = NONE;
        int line = NONE;
        int charge;
        boolean free;
        int dead = 3;
        boolean nobody;
        int state;
        int place;
        boolean sorted;
        int goal = NONE;
        int left;
        int deadSince;
        List<int[]> rows = new ArrayList<>();
        TreeMap<Integer, Integer> places = new TreeMap<>();

        void become(int at, int newState, int newPlace) {
            state = newState;
            place = newPlace;
            sorted = false;
            goal = NONE;
            rows.add(new int[] {at, newState, newPlace});
        }

        int owed() {
            return kind == 0 || kind == 3 ? charge : 0;
        }

        Letter twin() {
            try {
                Letter twin = (Letter) clone();
                twin.rows = new ArrayList<>(rows);
                twin.places = new TreeMap<>(places);
                return twin;
            } catch (CloneNotSupportedException e) {
                throw new IllegalStateException(e);
            }
        }
    }

    static final class Act {
        int day;
        int lines;
        int lateMore;
        int lateAfter = 1439;
        int frank;
        int ship;
        int sign;
        int dead = 3;
        final List<PlainActs.Sum> charges = new ArrayList<>();
        final List<PlainActs.Test> whens = new ArrayList<>();
    }

    static final class Robbery {
        int run;
        int minute;
        int owed;
        final List<Integer> letters = new ArrayList<>();
    }

    int now;
    int towns;
    final TreeMap<Integer, Integer> roads = new TreeMap<>();
    final List<Train> trains = new ArrayList<>();
    List<Letter> letters = new ArrayList<>();
    final List<Sorter> sorters = new ArrayList<>();
    final List<Act> acts = new ArrayList<>();
    final List<Robbery> robberies = new ArrayList<>();
    final List<Integer> tape = new ArrayList<>();
    int fault;
    int faultPlace = NONE;

    int town() {
        return towns == 12 ? NONE : towns++;
    }

    boolean isTown(int a) {
        return a >= 0 && a < towns;
    }

    boolean isTrain(int t) {
        return t >= 0 && t < trains.size();
    }

    boolean isRun(int t, int d) {
        return isTrain(t) && d >= 0 && d <= 6;
    }

    boolean isLetter(int l) {
        return l >= 0 && l < letters.size();
    }

    boolean road(int a, int b, int miles) {
        if (!isTown(a) || !isTown(b) || a == b || miles < 1 || miles > 999) {
            return false;
        }
        roads.put(Math.min(a, b) * 100 + Math.max(a, b), miles);
        return true;
    }

    /** Bellman's way; no step into the shunned town. */
    int least(int a, int b, int shunned) {
        int[] far = new int[12];
        java.util.Arrays.fill(far, 1 << 28);
        far[a] = 0;
        for (int round = 0; round < 12; round++) {
            for (int key : roads.keySet()) {
                int x = key / 100;
                int y = key % 100;
                if (x != shunned && y != shunned) {
                    far[x] = Math.min(far[x], far[y] + roads.get(key));
                    far[y] = Math.min(far[y], far[x] + roads.get(key));
                }
            }
        }
        return far[b] >= 1 << 28 ? NONE : far[b];
    }

    int miles(int a, int b) {
        return isTown(a) && isTown(b) ? least(a, b, NONE) : NONE;
    }

    int train() {
        if (trains.size() == 10) {
            return NONE;
        }
        trains.add(new Train());
        return trains.size() - 1;
    }

    int stop(int t, int town, int comes, int goes, boolean fast) {
        if (now > 0 || !isTrain(t) || !isTown(town) || comes < 0 || goes > 2400 || goes < comes) {
            return NONE;
        }
        List<Stop> stops = trains.get(t).stops;
        if (stops.size() == 8 || (fast && comes != goes)) {
            return NONE;
        }
        if (!stops.isEmpty()) {
            Stop ahead = stops.get(stops.size() - 1);
            if (ahead.town == town || comes <= ahead.goes) {
                return NONE;
            }
        }
        Stop stop = new Stop();
        stop.town = town;
        stop.comes = comes;
        stop.goes = goes;
        stop.fast = fast;
        stops.add(stop);
        return stops.size() - 1;
    }

    int stopOf(int t, int i, int what) {
        if (!isTrain(t)) {
            return NONE;
        }
        List<Stop> stops = trains.get(t).stops;
        if (i == NONE && what == 0) {
            return stops.size();
        }
        if (i < 0 || i >= stops.size() || what < 0 || what > 3) {
            return NONE;
        }
        Stop s = stops.get(i);
        return new int[] {s.town, s.comes, s.goes, s.fast ? 1 : 0}[what];
    }

    boolean lateCan(int t, int d, int n) {
        if (!isRun(t, d) || n < 0 || n > 300 || trains.get(t).stops.isEmpty()) {
            return false;
        }
        return 1440 * d + trains.get(t).stops.get(0).goes > now;
    }

    boolean late(int t, int d, int n) {
        if (!lateCan(t, d, n)) {
            return false;
        }
        trains.get(t).late[d] = n;
        return true;
    }

    int comesAt(int t, int d, int i) {
        return 1440 * d + trains.get(t).stops.get(i).comes + trains.get(t).late[d];
    }

    int goesAt(int t, int d, int i) {
        return 1440 * d + trains.get(t).stops.get(i).goes + trains.get(t).late[d];
    }

    boolean miss(int t, int d, int i) {
        if (!isRun(t, d) || i < 0 || i >= trains.get(t).stops.size() - 1) {
            return false;
        }
        if (!trains.get(t).stops.get(i).fast || comesAt(t, d, i) <= now) {
            return false;
        }
        return trains.get(t).missed.add(10 * d + i);
    }

    int minutes(int n) {
        if (n < 1 || n > 3000 || now + n > 10079) {
            return NONE;
        }
        for (int k = 0; k < n; k++) {
            now++;
            happen(now);
        }
        return now;
    }

    void happen(int minute) {
        if (minute % 1440 == 0) {
            for (Letter letter : letters) {
                int days = minute / 1440 - letter.deadSince / 1440;
                if (letter.state == 3 && days >= letter.dead) {
                    letter.become(minute, 6, letter.place);
                }
            }
        }
        for (int t = 0; t < trains.size(); t++) {
            for (int d = 0; d < 7; d++) {
                for (int i = 0; i < trains.get(t).stops.size(); i++) {
                    if (comesAt(t, d, i) == minute) {
                        come(t, d, i, minute);
                    }
                }
            }
        }
        for (int t = 0; t < trains.size(); t++) {
            for (int d = 0; d < 7; d++) {
                for (int i = 0; i + 1 < trains.get(t).stops.size(); i++) {
                    if (goesAt(t, d, i) == minute) {
                        go(t, d, i, minute);
                    }
                }
            }
        }
    }

    void come(int t, int d, int i, int minute) {
        Train train = trains.get(t);
        if (train.missed.contains(10 * d + i)) {
            return;
        }
        int town = train.stops.get(i).town;
        for (Letter letter : letters) {
            if (letter.state != 1 || letter.place != 10 * d + t) {
                continue;
            }
            boolean atLast = i == train.stops.size() - 1;
            if (!letter.sorted && !atLast || letter.sorted && letter.goal > i) {
                continue;
            }
            if (!letter.sorted) {
                letter.left++;
                train.leftBy[d]++;
            }
            if (letter.to == town && letter.nobody) {
                letter.deadSince = minute;
                letter.become(minute, 3, town);
            } else {
                letter.become(minute, letter.to == town ? 2 : 0, town);
            }
        }
    }

    void go(int t, int d, int i, int minute) {
        Train train = trains.get(t);
        int town = train.stops.get(i).town;
        if (!train.missed.contains(10 * d + i)) {
            for (Letter letter : letters) {
                if (letter.state == 0 && letter.place == town) {
                    int[] way = bestWay(town, minute, letter.to);
                    if (way != null && way[2] == t && way[3] == d && way[4] == i) {
                        letter.become(minute, 1, 10 * d + t);
                        letter.goal = way[5];
                    }
                }
            }
        }
        int[] time = new int[sorters.size()];
        for (int s = 0; s < time.length; s++) {
            time[s] = sorters.get(s).speed * (train.stops.get(i + 1).comes - train.stops.get(i).goes);
        }
        List<Letter> raw = new ArrayList<>();
        for (Letter letter : letters) {
            if (letter.state == 1 && letter.place == 10 * d + t && !letter.sorted) {
                raw.add(letter);
            }
        }
        raw.sort(Comparator.comparingInt((Letter letter) -> letter.goal).thenComparingInt(letter -> letter.number));
        for (Letter letter : raw) {
            int forTown = train.stops.get(letter.goal).town;
            for (int s = 0; s < time.length && !letter.sorted; s++) {
                Sorter sorter = sorters.get(s);
                if (sorter.train == t && time[s] > 0 && (sorter.knows & 1 << forTown) != 0) {
                    time[s]--;
                    letter.sorted = true;
                }
            }
        }
    }

    /** Earliest[k][town]: the earliest minute in that town by k runs at most. */
    int[][] earliest(int a, int minute, int most) {
        int[][] first = new int[most + 1][12];
        for (int[] row : first) {
            java.util.Arrays.fill(row, 99999);
        }
        first[0][a] = minute;
        for (int k = 1; k <= most; k++) {
            first[k] = first[k - 1].clone();
            for (int t = 0; t < trains.size(); t++) {
                List<Stop> stops = trains.get(t).stops;
                for (int d = 0; d < 7; d++) {
                    for (int i = 0; i < stops.size(); i++) {
                        if (goesAt(t, d, i) < first[k - 1][stops.get(i).town]) {
                            continue;
                        }
                        for (int j = i + 1; j < stops.size(); j++) {
                            int at = comesAt(t, d, j);
                            if (at <= 10079) {
                                int to = stops.get(j).town;
                                first[k][to] = Math.min(first[k][to], at);
                            }
                        }
                    }
                }
            }
        }
        return first;
    }

    /** Coming, runs, train, day, stop taken, stop left; null without a way. */
    int[] bestWay(int a, int minute, int b) {
        int[][] first = earliest(a, minute, 12);
        int coming = first[12][b];
        if (coming == 99999) {
            return null;
        }
        int runs = 0;
        while (first[runs][b] > coming) {
            runs++;
        }
        for (int t = 0; t < trains.size(); t++) {
            List<Stop> stops = trains.get(t).stops;
            for (int d = 0; d < 7; d++) {
                for (int i = 0; i < stops.size(); i++) {
                    if (stops.get(i).town != a || goesAt(t, d, i) < minute) {
                        continue;
                    }
                    for (int j = i + 1; j < stops.size(); j++) {
                        int at = comesAt(t, d, j);
                        if (at <= 10079 && earliest(stops.get(j).town, at, runs - 1)[runs - 1][b] == coming) {
                            return new int[] {coming, runs, t, d, i, j};
                        }
                    }
                }
            }
        }
        throw new IllegalStateException("a way without a first run");
    }

    int look(int what) {
        if (what >= 10 && what <= 16) {
            return (int) letters.stream().filter(letter -> letter.state == what - 10).count();
        }
        int[] all = {now, towns, trains.size(), letters.size(), sorters.size(), acts.size()};
        return what >= 0 && what < all.length ? all[what] : NONE;
    }

    int feed(int... five) {
        if (tape.size() + 20 > 600) {
            return NONE;
        }
        for (int number : five) {
            tape.add(number >>> 24);
            tape.add(number >>> 16 & 255);
            tape.add(number >>> 8 & 255);
            tape.add(number & 255);
        }
        return tape.size();
    }

    boolean end(int n) {
        if (n < 0 || n > tape.size()) {
            return false;
        }
        while (tape.size() > n) {
            tape.remove(tape.size() - 1);
        }
        return true;
    }

    int act(int day) {
        StringBuilder text = new StringBuilder();
        for (int c : tape) {
            text.append((char) c);
        }
        tape.clear();
        fault = 0;
        faultPlace = NONE;
        if (day < 0 || day > 6 || acts.size() == 6) {
            return NONE;
        }
        if (!acts.isEmpty() && acts.get(acts.size() - 1).day > day) {
            return NONE;
        }
        Act act = new Act();
        act.day = day;
        PlainActs reader = new PlainActs(text.toString());
        reader.readInto(act);
        if (reader.fault != 0) {
            fault = reader.fault;
            faultPlace = reader.faultPlace;
            return NONE;
        }
        acts.add(act);
        return acts.size() - 1;
    }

    int fault(int what) {
        return what == 0 ? fault : what == 1 ? faultPlace : NONE;
    }

    int actOn(int day) {
        int number = NONE;
        for (int k = 0; k < acts.size(); k++) {
            if (acts.get(k).day <= day) {
                number = k;
            }
        }
        return number;
    }

    int inForce(int day, int what) {
        if (day < 0 || day > 6 || actOn(day) == NONE || what < 0 || what > 7) {
            return NONE;
        }
        Act a = acts.get(actOn(day));
        return new int[] {actOn(day), a.lines, a.lateMore, a.lateAfter, a.frank, a.ship, a.sign, a.dead}[what];
    }

    int post(int kind, int from, int to, int sheets, int weight, int who) {
        if (kind < 0 || kind > 4 || !isTown(from) || !isTown(to) || from == to || sheets < 1 || sheets > 9) {
            return NONE;
        }
        if (weight < 0 || weight > 99 || who < 0 || who > 9 || letters.size() == 120) {
            return NONE;
        }
        Letter letter = new Letter();
        letter.number = letters.size();
        letter.kind = kind;
        letter.from = from;
        letter.to = to;
        letter.sheets = sheets;
        letter.weight = weight;
        letter.who = who;
        letter.minute = now;
        int miles = least(from, to, NONE);
        letter.miles = miles == NONE ? 0 : miles;
        letter.cross = from != 0 && to != 0 && miles != NONE && least(from, to, 0) == miles;
        letters.add(letter);
        letter.act = actOn(now / 1440);
        if (letter.act != NONE) {
            Act act = acts.get(letter.act);
            letter.dead = act.dead;
            letter.free = isFree(act, letter);
            letter.charge = chargeBy(act, letter);
            letter.line = letter.free ? NONE : lineBy(act, letter);
        }
        letter.become(now, 0, from);
        return letter.number;
    }

    boolean isFree(Act act, Letter letter) {
        if (letter.kind != 2) {
            return false;
        }
        int ahead = 0;
        for (Letter other : letters.subList(0, letter.number)) {
            if (other.kind == 2 && other.who == letter.who && other.minute / 1440 == letter.minute / 1440) {
                ahead++;
            }
        }
        return ahead < act.frank;
    }

    int[] askedOf(Letter letter) {
        return new int[] {letter.miles, letter.sheets, letter.weight, letter.minute % 1440 / 60,
            letter.minute / 1440, letter.kind, letter.cross ? 1 : 0};
    }

    int lineBy(Act act, Letter letter) {
        for (int i = 0; i < act.charges.size(); i++) {
            if (act.whens.get(i) == null || act.whens.get(i).holds(askedOf(letter))) {
                return i;
            }
        }
        return NONE;
    }

    int chargeBy(Act act, Letter letter) {
        if (isFree(act, letter)) {
            return 0;
        }
        int line = lineBy(act, letter);
        int worth = line == NONE ? 0 : act.charges.get(line).worth(askedOf(letter));
        int sum = worth < 0 ? 0 : worth > 99999 ? 99999 : worth;
        sum += letter.minute % 1440 > act.lateAfter ? act.lateMore : 0;
        sum += letter.kind == 3 ? act.ship : 0;
        return sum + (letter.kind == 4 ? act.sign : 0);
    }

    int of(int l, int what) {
        if (!isLetter(l) || what < 0 || what > 12) {
            return NONE;
        }
        Letter x = letters.get(l);
        return new int[] {x.kind, x.from, x.to, x.sheets, x.weight, x.who, x.minute, x.state, x.place,
            x.cross ? 1 : 0, x.sorted ? 1 : 0, x.goal, x.left}[what];
    }

    int charge(int l, int what) {
        if (!isLetter(l) || what < 0 || what > 5) {
            return NONE;
        }
        Letter x = letters.get(l);
        return new int[] {x.charge, x.act, x.line, x.owed(), x.charge - x.owed(), x.free ? 1 : 0}[what];
    }

    int way(int a, int minute, int b, int what) {
        if (!isTown(a) || !isTown(b) || a == b || minute < now || minute > 10079 || what < 0 || what > 5) {
            return NONE;
        }
        int[] way = bestWay(a, minute, b);
        return way == null ? NONE : way[what];
    }

    int lead(int l, int i, int what) {
        if (!isLetter(l) || i < 0 || i >= letters.get(l).rows.size() || what < 0 || what > 2) {
            return NONE;
        }
        return letters.get(l).rows.get(i)[what];
    }

    int where(int l, int minute, int what) {
        if (!isLetter(l) || minute > now || what < 0 || what > 1) {
            return NONE;
        }
        int answer = NONE;
        for (int[] row : letters.get(l).rows) {
            if (row[0] <= minute) {
                answer = row[what + 1];
            }
        }
        return answer;
    }

    int sorter(int speed, int knows) {
        if (speed < 1 || speed > 99 || knows < 0 || knows > 4095 || sorters.size() == 8) {
            return NONE;
        }
        Sorter sorter = new Sorter();
        sorter.speed = speed;
        sorter.knows = knows;
        sorters.add(sorter);
        return sorters.size() - 1;
    }

    boolean seat(int s, int t) {
        if (s < 0 || s >= sorters.size() || !(t == NONE || isTrain(t))) {
            return false;
        }
        sorters.get(s).train = t;
        return true;
    }

    int goneFrom(int t, int d) {
        int gone = NONE;
        for (int i = 0; i < trains.get(t).stops.size() - 1; i++) {
            if (now >= goesAt(t, d, i)) {
                gone = i;
            }
        }
        return gone;
    }

    int run(int t, int d, int what) {
        if (!isRun(t, d) || what < 0 || what > 4) {
            return NONE;
        }
        int raw = 0;
        int done = 0;
        for (Letter letter : letters) {
            if (letter.state == 1 && letter.place == 10 * d + t) {
                raw += letter.sorted ? 0 : 1;
                done += letter.sorted ? 1 : 0;
            }
        }
        return new int[] {raw, done, goneFrom(t, d), trains.get(t).leftBy[d], trains.get(t).late[d]}[what];
    }

    int account(int a, int b, int what) {
        if (!isTown(a) || !isTown(b) || a == b) {
            return NONE;
        }
        int out = 0;
        int in = 0;
        List<Integer> differ = new ArrayList<>();
        for (Letter letter : letters) {
            if (letter.from == a && letter.to == b) {
                out += letter.owed();
                in += letter.state == 2 ? letter.owed() : 0;
                if (letter.state != 2 && letter.owed() != 0) {
                    differ.add(letter.number);
                }
            }
        }
        if (what >= 10 && what - 10 < differ.size()) {
            return differ.get(what - 10);
        }
        return what == 0 ? out : what == 1 ? in : what == 2 ? differ.size() : NONE;
    }

    boolean nobody(int l) {
        if (!isLetter(l) || letters.get(l).nobody || letters.get(l).state > 1) {
            return false;
        }
        letters.get(l).nobody = true;
        return true;
    }

    boolean place(int l, int town, int chance) {
        if (!isLetter(l) || letters.get(l).state != 3 || !isTown(town) || town == letters.get(l).to) {
            return false;
        }
        TreeMap<Integer, Integer> places = letters.get(l).places;
        if (chance < 1 || chance > 99 || (places.size() == 4 && !places.containsKey(town))) {
            return false;
        }
        places.put(town, chance);
        return true;
    }

    long order(int l, int what) {
        if (!isLetter(l)) {
            return NONE;
        }
        TreeMap<Integer, Integer> places = letters.get(l).places;
        List<Integer> towns = new ArrayList<>(places.keySet());
        towns.sort(Comparator.comparingInt(town -> -places.get(town)));
        if (what == 0) {
            return towns.size();
        }
        if ((what == 1 || what == 2) && !towns.isEmpty()) {
            BigInteger below = BigInteger.valueOf(100).pow(towns.size());
            BigInteger missing = BigInteger.ONE;
            for (int chance : places.values()) {
                missing = missing.multiply(BigInteger.valueOf(100 - chance));
            }
            BigInteger above = below.subtract(missing);
            return (what == 1 ? above : below).divide(above.gcd(below)).longValue();
        }
        if (what >= 10 && what - 10 < towns.size()) {
            return towns.get(what - 10);
        }
        if (what >= 20 && what - 20 < towns.size()) {
            return places.get(towns.get(what - 20));
        }
        return NONE;
    }

    boolean found(int l, int town) {
        if (!isLetter(l) || letters.get(l).state != 3 || !letters.get(l).places.containsKey(town)) {
            return false;
        }
        letters.get(l).become(now, 5, town);
        return true;
    }

    int rob(int t, int d) {
        if (!isRun(t, d) || robberies.size() == 20) {
            return NONE;
        }
        boolean between = false;
        for (int i = 0; i + 1 < trains.get(t).stops.size(); i++) {
            between |= goesAt(t, d, i) <= now && now < comesAt(t, d, i + 1);
        }
        if (!between) {
            return NONE;
        }
        Robbery robbery = new Robbery();
        robbery.run = 10 * d + t;
        robbery.minute = now;
        for (Letter letter : letters) {
            if (letter.state == 1 && letter.place == robbery.run && letter.sorted) {
                robbery.letters.add(letter.number);
                robbery.owed += letter.owed();
                letter.become(now, 4, robbery.run);
            }
        }
        robberies.add(robbery);
        return robberies.size() - 1;
    }

    int robbery(int k, int what) {
        if (k < 0 || k >= robberies.size()) {
            return NONE;
        }
        Robbery r = robberies.get(k);
        if (what >= 10 && what - 10 < r.letters.size()) {
            return r.letters.get(what - 10);
        }
        return what < 0 || what > 3 ? NONE : new int[] {r.run, r.minute, r.letters.size(), r.owed}[what];
    }

    boolean set(int t) {
        if (!isTrain(t)) {
            return false;
        }
        trains.get(t).setAt = now;
        return true;
    }

    /** What a clock shows, in seconds that are counted out and cut to minutes. */
    static int shows(int setAt, int minute, int gain) {
        long hundredths = 60L * 60 * (minute - setAt) + (long) gain * (minute - setAt);
        return setAt + (int) Math.floorDiv(hundredths, 3600L);
    }

    boolean seen(int t, int m) {
        if (!isTrain(t) || m < 0 || m > 10079) {
            return false;
        }
        Train train = trains.get(t);
        List<Integer> stay = new ArrayList<>();
        for (int gain = train.low; gain <= train.high; gain++) {
            if (shows(train.setAt, now, gain) == m) {
                stay.add(gain);
            }
        }
        if (stay.isEmpty()) {
            return false;
        }
        train.low = stay.get(0);
        train.high = stay.get(stay.size() - 1);
        return true;
    }

    int clock(int t, int what) {
        if (!isTrain(t) || what < 0 || what > 2) {
            return NONE - 999;
        }
        Train train = trains.get(t);
        return new int[] {train.low, train.high, train.setAt}[what];
    }

    int trueMinute(int t, int m, int what) {
        if (!isTrain(t) || m < 0 || m > 10079 || what < 0 || what > 1) {
            return NONE;
        }
        Train train = trains.get(t);
        int least = NONE;
        int greatest = NONE;
        for (int minute = train.setAt; minute <= 10079; minute++) {
            for (int gain = train.low; gain <= train.high; gain++) {
                if (shows(train.setAt, minute, gain) == m) {
                    least = least == NONE ? minute : least;
                    greatest = minute;
                }
            }
        }
        return what == 0 ? least : greatest;
    }

    long tried(int k) {
        if (k < 0 || k >= acts.size()) {
            return NONE;
        }
        long sum = 0;
        for (Letter letter : letters) {
            sum += chargeBy(acts.get(k), letter);
        }
        return sum;
    }

    /** All goes on with letters of another list; what trains count is put back. */
    int sumOfGoingOn() {
        List<Letter> kept = letters;
        List<int[]> leftBy = new ArrayList<>();
        for (Train train : trains) {
            leftBy.add(train.leftBy.clone());
        }
        letters = new ArrayList<>();
        for (Letter letter : kept) {
            letters.add(letter.twin());
        }
        for (int minute = now + 1; minute <= 10079; minute++) {
            happen(minute);
        }
        int sum = 0;
        for (Letter letter : letters) {
            if (letter.state == 2) {
                sum += letter.rows.get(letter.rows.size() - 1)[0];
            } else if (letter.state <= 1) {
                sum += 10080;
            }
        }
        letters = kept;
        for (int t = 0; t < trains.size(); t++) {
            System.arraycopy(leftBy.get(t), 0, trains.get(t).leftBy, 0, 7);
        }
        return sum;
    }

    int whatIf(int t, int d, int n) {
        if (t == NONE) {
            return sumOfGoingOn();
        }
        if (!lateCan(t, d, n)) {
            return NONE;
        }
        int told = trains.get(t).late[d];
        trains.get(t).late[d] = n;
        int sum = sumOfGoingOn();
        trains.get(t).late[d] = told;
        return sum;
    }

    int seats(int what) {
        if (trains.isEmpty() || sorters.isEmpty() || (what != 0 && what != 10 && what != 11)) {
            return NONE;
        }
        if (what == 11 && sorters.size() == 1) {
            return NONE;
        }
        Sorter one = sorters.get(0);
        Sorter two = sorters.size() > 1 ? sorters.get(1) : new Sorter();
        int[] sat = {one.train, two.train};
        int[] best = null;
        for (int a = 0; a < trains.size(); a++) {
            for (int b = 0; b < (sorters.size() > 1 ? trains.size() : 1); b++) {
                one.train = a;
                two.train = b;
                int sum = sumOfGoingOn();
                if (best == null || sum < best[0]) {
                    best = new int[] {sum, a, b};
                }
            }
        }
        one.train = sat[0];
        two.train = sat[1];
        return best[what == 0 ? 0 : what - 9];
    }
}
