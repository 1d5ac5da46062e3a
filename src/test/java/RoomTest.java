import java.lang.reflect.Array;
import java.lang.reflect.Field;
import java.lang.reflect.Modifier;
import java.util.ArrayList;
import java.util.Collections;
import java.util.IdentityHashMap;
import java.util.List;
import java.util.Set;

/** LANGUAGE.md, rule 12: all that an object needs is made with it, and little; no call makes a row or a part. */
public final class RoomTest {
    private static final Due DUE = new Due("RoomTest");
    /** So much that the room holds an object for each of 512 calls, and more. */
    private static final int MOST_PARTS = 400;
    private static final int MOST_ELEMENTS = 14000;
    private static final String TEXT = "charge 1+2*miles/3 when not (sheets) < 2 and weight > 5 or hour = 1;"
        + "charge kind + cross; late 2 after 600; frank 1; ship 3; sign 4; dead 1;";

    public static void main(String[] args) throws IllegalAccessException {
        InlandMails x = new InlandMails();
        Set<Object> made = partsOf(x);
        System.out.println("an object: " + made.size() + " parts, " + elementsOf(made) + " fields and elements");
        DUE.is("parts of a new object", made.size() <= MOST_PARTS, true);
        DUE.is("fields and elements of a new object", elementsOf(made) <= MOST_ELEMENTS, true);
        fill(x);
        keeps("as all is told", x, made);
        ask(x);
        keeps("as ways and trials are asked for", x, made);
        play(x);
        keeps("as letters go", x, made);
        ask(x);
        keeps("as leads are asked for", x, made);
        DUE.close();
    }

    private static void keeps(String when, InlandMails x, Set<Object> made) throws IllegalAccessException {
        Set<Object> now = partsOf(x);
        DUE.is("parts " + when, now.size(), made.size());
        for (Object part : now) {
            DUE.is("an old part " + when + ": " + part.getClass(), made.contains(part), true);
        }
    }

    private static Set<Object> partsOf(Object whole) throws IllegalAccessException {
        Set<Object> parts = Collections.newSetFromMap(new IdentityHashMap<>());
        List<Object> open = new ArrayList<>();
        open.add(whole);
        while (!open.isEmpty()) {
            Object part = open.remove(open.size() - 1);
            if (part != null && parts.add(part)) {
                addPartsWithin(part, open);
            }
        }
        return parts;
    }

    private static void addPartsWithin(Object part, List<Object> open) throws IllegalAccessException {
        Class<?> kind = part.getClass();
        if (kind.isArray()) {
            for (int i = 0; !kind.getComponentType().isPrimitive() && i < Array.getLength(part); i++) {
                open.add(Array.get(part, i));
            }
            return;
        }
        for (Field field : kind.getDeclaredFields()) {
            if (!Modifier.isStatic(field.getModifiers()) && !field.getType().isPrimitive()) {
                field.setAccessible(true);
                open.add(field.get(part));
            }
        }
    }

    private static int elementsOf(Set<Object> parts) {
        int sum = 0;
        for (Object part : parts) {
            if (part.getClass().isArray()) {
                sum += Array.getLength(part);
            } else {
                for (Field field : part.getClass().getDeclaredFields()) {
                    sum += Modifier.isStatic(field.getModifiers()) ? 0 : 1;
                }
            }
        }
        return sum;
    }

    /** As much of all as there may be. */
    private static void fill(InlandMails x) {
        for (int a = 0; a < 12; a++) {
            x.town();
            x.road(a, a - 1, 10 + a);
        }
        for (int t = 0; t < 10; t++) {
            x.train();
            for (int i = 0; i < 8; i++) {
                x.stop(t, (t + i * (1 + t % 2)) % 12, 200 + 60 * i + t, 200 + 60 * i + t, i == 4);
            }
            for (int d = 0; d < 7; d++) {
                x.miss(t, d, 4);
            }
        }
        for (int k = 0; k < 6; k++) {
            Land.act(x, k, "charge 1 + ;");
            Land.act(x, k, TEXT);
        }
        for (int s = 0; s < 8; s++) {
            Land.sorterIn(x, s, 1 + s, 4095 - (1 << s));
        }
        for (int l = 0; l < 120; l++) {
            x.post(l % 5, l % 12, (l + 1 + l / 12) % 12, 1 + l % 9, l % 100, l % 10);
            if (l % 3 == 0) {
                x.nobody(l);
            }
        }
    }

    private static void ask(InlandMails x) {
        for (int a = 0; a < 12; a++) {
            DUE.is("a way", x.way(a, x.look(0), (a + 1) % 12, 0) >= InlandMails.NONE, true);
        }
        for (int l = 0; l < 120; l++) {
            for (int i = 0; x.lead(l, i, 0) != InlandMails.NONE; i++) {
                DUE.is("where", x.where(l, x.lead(l, i, 0), 0) != InlandMails.NONE, true);
            }
        }
        askCounts(x);
        DUE.is("tried", x.tried(0) >= 0, true);
        DUE.is("as it is", x.whatIf(InlandMails.NONE, 0, 0) >= 0, true);
        x.whatIf(3, 6, 100);
        DUE.is("seats", x.seats(0) >= 0, true);
    }

    /** Of all that is counted letter by letter. */
    private static void askCounts(InlandMails x) {
        int letters = 0;
        int aboard = 0;
        for (int state = 0; state <= 6; state++) {
            letters += x.look(10 + state);
        }
        DUE.is("letters in all states", letters, 120);
        for (int run = 0; run < 70; run++) {
            aboard += x.run(run % 10, run / 10, 0) + x.run(run % 10, run / 10, 1);
        }
        DUE.is("letters in all runs", aboard, x.look(11));
        int robbed = 0;
        for (int k = 0; x.robbery(k, 0) != InlandMails.NONE; k++) {
            robbed += x.robbery(k, 2);
            DUE.is("more than it took", x.robbery(k, 10 + x.robbery(k, 2)), InlandMails.NONE);
            DUE.is("owed", x.robbery(k, 3) >= 0, true);
        }
        DUE.is("letters of all robberies", robbed, x.look(14));
        for (int a = 0; a < 12; a++) {
            for (int b = 0; b < 12; b++) {
                if (a != b) {
                    DUE.is("IN and OUT", x.account(a, b, 1) <= x.account(a, b, 0), true);
                    DUE.is("they end", x.account(a, b, 10 + x.account(a, b, 2)), InlandMails.NONE);
                }
            }
        }
    }

    private static void play(InlandMails x) {
        for (int n = 0; n < 24; n++) {
            x.minutes(400);
            x.late(n % 10, 6, 10 * n);
            x.rob(n % 10, x.look(0) / 1440);
            for (int l = 0; l < 120; l++) {
                if (x.of(l, 7) == 3) {
                    x.place(l, (x.of(l, 2) + n + 1) % 12, 1 + n);
                    x.found(l, l % 4 == 0 ? x.of(l, 2) + 1 : InlandMails.NONE);
                }
            }
            x.set(n % 10);
            x.seen(n % 10, x.look(0));
        }
        DUE.is("some were robbed", x.look(14) > 0, true);
        DUE.is("some were found", x.look(15) > 0, true);
        DUE.is("some were burnt", x.look(16) > 0, true);
        DUE.is("some were given", x.look(12) > 0, true);
    }
}
