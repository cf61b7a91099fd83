import java.math.BigInteger;
import java.util.ArrayList;
import java.util.HashMap;
import java.util.HashSet;
import java.util.List;
import java.util.Map;
import java.util.Set;
import java.util.regex.Matcher;
import java.util.regex.Pattern;

/** The TEXT and its FAULTS told once more, as plainly as can be, to compare with. */
final class TextModel {
    private static final Set<String> LANGUAGE = Set.of("field", "crop", "scare", "flap", "most", "crows", "wind", "gust", "seed",
        "law", "see", "eat", "pay", "or", "and", "not", "sight", "far", "hour", "grade", "ripe", "date");
    private static final Set<String> NAMES = Set.of("sight", "far", "wind", "hour", "grade", "ripe", "date");
    private static final Set<String> COMPARED = Set.of("<", "<=", "=", "<>", ">=", ">");
    private static final Map<String, Integer> HIGHEST = Map.of("most", 12, "crows", 99, "gust", 10, "seed", 99999);
    private static final Map<String, Integer> MANY = Map.of("crop", 16, "scare", 6, "flap", 10, "wind", 14);

    private static final class Fault extends RuntimeException {
        private static final long serialVersionUID = 1;
        private final int number;
        private final int place;

        Fault(int number, int place) {
            this.number = number;
            this.place = place;
        }
    }

    private final List<String> tokens = new ArrayList<>();
    private final List<Integer> places = new ArrayList<>();
    private int at;
    private final Set<String> told = new HashSet<>();
    private final Map<String, Integer> how = new HashMap<>();
    private int wide = 5;
    private int high = 4;
    int lines;
    int knots;
    int fault;
    int place = -1;

    TextModel(String text) {
        Matcher m = Pattern.compile("[a-z]+|[0-9]+|<=|<>|>=|[^ \n]", Pattern.DOTALL).matcher(text);
        while (m.find()) {
            tokens.add(m.group());
            places.add(m.start());
        }
        tokens.add("");
        places.add(text.length());
        try {
            while (!now().isEmpty()) {
                line();
                lines++;
            }
        } catch (Fault f) {
            lines = -1;
            fault = f.number;
            place = f.place;
        }
    }

    private String now() {
        return tokens.get(at);
    }

    private Fault fault(int number) {
        return new Fault(number, places.get(at));
    }

    private void demand(boolean is, int number) {
        if (!is) {
            throw fault(number);
        }
    }

    private void line() {
        String word = now();
        demand(word.equals("field") || word.equals("law") || HIGHEST.containsKey(word) || MANY.containsKey(word), 1);
        if (MANY.containsKey(word)) {
            how.merge(word, 1, Integer::sum);
            demand(how.get(word) <= MANY.get(word), 2);
        }
        if (HIGHEST.containsKey(word) || word.equals("field")) {
            demand(told.add(word), 3);
        }
        if (word.equals("field")) {
            demand(!told.contains("cells"), 4);
        }
        at++;
        switch (word) {
            case "field":
                wide = number(1, 6);
                high = number(1, 5);
                break;
            case "crop": {
                told.add("cells");
                int x = number(0, wide - 1);
                int y = number(0, high - 1);
                at--;
                demand(told.add("crop " + x + " " + y), 3);
                at++;
                number(0, 99);
                break;
            }
            case "scare":
                told.add("cells");
                name();
                demand(told.add("scare " + now()), 3);
                at++;
                number(0, wide - 1);
                number(0, high - 1);
                number(0, 9);
                number(0, 9);
                number(0, 9);
                break;
            case "flap":
                name();
                demand(told.contains("scare " + now()), 4);
                at++;
                number(number(0, 11), 11);
                break;
            case "wind":
                number(0, 9);
                break;
            case "law":
                demand(Set.of("see", "eat", "pay").contains(now()), 1);
                demand(told.add("law " + now()), 3);
                at++;
                e(0);
                break;
            default:
                number(0, HIGHEST.get(word));
        }
        demand(now().equals(";"), 1);
        at++;
    }

    private boolean isNumber() {
        return now().matches("[0-9]+");
    }

    private int number(int least, int highest) {
        demand(isNumber(), 1);
        BigInteger n = new BigInteger(now());
        demand(n.compareTo(BigInteger.valueOf(least)) >= 0 && n.compareTo(BigInteger.valueOf(highest)) <= 0, 2);
        at++;
        return n.intValue();
    }

    private void name() {
        demand(now().matches("[a-z]{1,6}") && !LANGUAGE.contains(now()), 1);
    }

    private void knot() {
        demand(knots < 64, 2);
        knots++;
        at++;
    }

    private void e(int open) {
        a(open);
        while (now().equals("or")) {
            knot();
            a(open);
        }
    }

    private void a(int open) {
        b(open);
        while (now().equals("and")) {
            knot();
            b(open);
        }
    }

    private void b(int open) {
        if (now().equals("not")) {
            knot();
            b(open);
        } else {
            s(open);
            if (COMPARED.contains(now())) {
                knot();
                s(open);
            }
        }
    }

    private void s(int open) {
        t(open);
        while (now().equals("+") || now().equals("-")) {
            knot();
            t(open);
        }
    }

    private void t(int open) {
        p(open);
        while (now().equals("*") || now().equals("/")) {
            knot();
            p(open);
        }
    }

    private void p(int open) {
        if (isNumber()) {
            number(0, 9999);
            at--;
            knot();
        } else if (NAMES.contains(now())) {
            knot();
        } else {
            demand(now().equals("("), 1);
            demand(open < 8, 2);
            at++;
            e(open + 1);
            demand(now().equals(")"), 1);
            at++;
        }
    }
}
