import java.util.ArrayList;
import java.util.Arrays;
import java.util.List;

/** Reads an act's text for PlainMails: first all tokens, then lines as trees of small functions. */
final class PlainActs {
    interface Sum {
        int worth(int[] asked);
    }

    interface Test {
        boolean holds(int[] asked);
    }

    /** Told by throwing: which fault, at which place. */
    static final class Refused extends RuntimeException {
        private static final long serialVersionUID = 1L;
        final int which;
        final int place;

        Refused(int which, int place) {
            this.which = which;
            this.place = place;
        }
    }

    private static final List<String> ASKED =
        Arrays.asList("miles", "sheets", "weight", "hour", "day", "kind", "cross");
    private static final List<String> OTHERS = Arrays.asList("charge", "when", "late", "after", "frank",
        "ship", "sign", "dead", "or", "and", "not");

    int fault;
    int faultPlace = PlainMails.NONE;
    private final List<String> tokens = new ArrayList<>();
    private final List<Integer> places = new ArrayList<>();
    private int next;
    private int open;

    PlainActs(String text) {
        int i = 0;
        while (i < text.length()) {
            char c = text.charAt(i);
            int j = i + 1;
            if (c == ' ' || c == '\n') {
                i++;
                continue;
            }
            if (latin(c)) {
                while (j < text.length() && latin(text.charAt(j))) {
                    j++;
                }
            } else if (digit(c)) {
                while (j < text.length() && digit(text.charAt(j))) {
                    j++;
                }
            }
            tokens.add(text.substring(i, j));
            places.add(i);
            i = j;
        }
        tokens.add("");
        places.add(text.length());
    }

    private static boolean latin(char c) {
        return "abcdefghijklmnopqrstuvwxyz".indexOf(Character.toLowerCase(c)) >= 0 && c < 128;
    }

    private static boolean digit(char c) {
        return "0123456789".indexOf(c) >= 0;
    }

    private String peek() {
        String token = tokens.get(next);
        boolean good = token.matches("[0-9]{1,4}|[;+*/()<=>-]") || ASKED.contains(token) || OTHERS.contains(token);
        return good ? token : "?";
    }

    private Refused refused(int which) {
        return new Refused(which, places.get(next));
    }

    private void want(String token) {
        if (!peek().equals(token)) {
            throw refused(1);
        }
        next++;
    }

    private int number(int most) {
        if (!peek().matches("[0-9]+")) {
            throw refused(1);
        }
        int number = Integer.parseInt(peek());
        if (number > most) {
            throw refused(2);
        }
        next++;
        return number;
    }

    void readInto(PlainMails.Act act) {
        try {
            while (next < tokens.size() - 1) {
                line(act);
            }
        } catch (Refused refused) {
            fault = refused.which;
            faultPlace = refused.place;
        }
    }

    private void line(PlainMails.Act act) {
        String word = peek();
        if (!Arrays.asList("charge", "late", "frank", "ship", "sign", "dead").contains(word)) {
            throw refused(1);
        }
        if (act.lines == 24) {
            throw refused(3);
        }
        act.lines++;
        next++;
        if (word.equals("charge")) {
            act.charges.add(sum());
            Test test = null;
            if (peek().equals("when")) {
                next++;
                test = anyOf();
            }
            act.whens.add(test);
        } else if (word.equals("late")) {
            int more = number(9999);
            want("after");
            act.lateAfter = number(1439);
            act.lateMore = more;
        } else if (word.equals("frank")) {
            act.frank = number(99);
        } else if (word.equals("ship")) {
            act.ship = number(9999);
        } else if (word.equals("sign")) {
            act.sign = number(9999);
        } else {
            act.dead = number(9999);
        }
        want(";");
    }

    private Test anyOf() {
        Test left = allOf();
        while (peek().equals("or")) {
            next++;
            Test a = left;
            Test b = allOf();
            left = asked -> a.holds(asked) || b.holds(asked);
        }
        return left;
    }

    private Test allOf() {
        Test left = test();
        while (peek().equals("and")) {
            next++;
            Test a = left;
            Test b = test();
            left = asked -> a.holds(asked) && b.holds(asked);
        }
        return left;
    }

    private Test test() {
        if (peek().equals("not")) {
            if (open == 8) {
                throw refused(3);
            }
            open++;
            next++;
            Test inner = test();
            open--;
            return asked -> !inner.holds(asked);
        }
        Sum left = sum();
        String sign = peek();
        if (!sign.matches("[<=>]")) {
            throw refused(1);
        }
        next++;
        Sum right = sum();
        return asked -> {
            int order = Integer.compare(left.worth(asked), right.worth(asked));
            return sign.equals("<") ? order < 0 : sign.equals(">") ? order > 0 : order == 0;
        };
    }

    private Sum sum() {
        Sum left = product();
        while (peek().equals("+") || peek().equals("-")) {
            boolean plus = peek().equals("+");
            next++;
            Sum a = left;
            Sum b = product();
            left = asked -> plus ? a.worth(asked) + b.worth(asked) : a.worth(asked) - b.worth(asked);
        }
        return left;
    }

    private Sum product() {
        Sum left = unit();
        while (peek().equals("*") || peek().equals("/")) {
            boolean times = peek().equals("*");
            next++;
            Sum a = left;
            if (times) {
                Sum b = unit();
                left = asked -> a.worth(asked) * b.worth(asked);
            } else {
                if (peek().matches("0+")) {
                    throw refused(2);
                }
                int part = number(9999);
                left = asked -> a.worth(asked) / part;
            }
        }
        return left;
    }

    private Sum unit() {
        String token = peek();
        if (token.matches("[0-9]+")) {
            int number = number(9999);
            return asked -> number;
        }
        if (ASKED.contains(token)) {
            int which = ASKED.indexOf(token);
            next++;
            return asked -> asked[which];
        }
        if (!token.equals("(")) {
            throw refused(1);
        }
        if (open == 8) {
            throw refused(3);
        }
        open++;
        next++;
        Sum inner = sum();
        want(")");
        open--;
        return inner;
    }
}
