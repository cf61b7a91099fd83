import java.util.Random;

/** Promises 3 to 5: TEXTS by lot (always the same ones), right ones and others, their LINES and FAULTS against TextModel's. */
public final class TextModelTest {
    private static final String[] TOKENS = {"field", "crop", "scare", "flap", "most", "crows", "wind", "gust", "seed", "law", "see",
        "eat", "pay", "or", "and", "not", "sight", "far", "wind", "hour", "grade", "ripe", "date", "(", ")", "<", "<=", "=", "<>",
        ">=", ">", "+", "-", "*", "/", ";", "0", "1", "2", "3", "4", "5", "6", "7", "9", "10", "11", "12", "13", "99", "100",
        "9999", "10000", "99999", "100000", "4294967296", "a", "bo", "cee", "zzzzzz", "zzzzzzz", "#", "A", "\t", "\u00ff", "\0"};

    private final Random r;

    private TextModelTest(int seed) {
        r = new Random(seed);
    }

    public static void main(String[] args) {
        CrowRota x = new CrowRota();
        int right = 0;
        for (int seed = 0; seed < 6000; seed++) {
            if (seed % 10 == 0) {
                x = new CrowRota();
            }
            String text = new TextModelTest(seed).text();
            TextModel m = new TextModel(text);
            Due.is("text " + text, Due.text(x, text), m.lines);
            Due.is("fault of " + text, x.fault(0), m.fault);
            Due.is("place of " + text, x.fault(1), m.place);
            if (m.lines >= 0) {
                right++;
                Due.is("knots of " + text, x.count(5), m.knots);
            }
        }
        Due.is("many are right and many are not", right > 500 && right < 5500, true);
        Due.end();
    }

    private String text() {
        StringBuilder all = new StringBuilder();
        if (r.nextInt(3) == 0) {
            all.append("field ").append(1 + r.nextInt(6)).append(' ').append(1 + r.nextInt(5)).append(';');
        }
        for (int k = r.nextInt(r.nextInt(4) == 0 ? 55 : 14); k > 0; k--) {
            all.append(line()).append(r.nextInt(40) == 0 ? " " : ";").append(r.nextInt(4) == 0 ? "\n" : "");
        }
        if (r.nextInt(2) == 0) {
            for (int k = 1 + r.nextInt(2); k > 0 && all.length() > 0; k--) {
                change(all);
            }
        }
        return all.length() > 700 ? all.substring(0, 700) : all.toString();
    }

    /** A sign or a TOKEN is put in, put in place of another, or falls out; or what is behind falls off. */
    private void change(StringBuilder all) {
        int at = r.nextInt(all.length());
        String token = TOKENS[r.nextInt(TOKENS.length)];
        switch (r.nextInt(6)) {
            case 0:
                all.setLength(at);
                break;
            case 1:
                all.deleteCharAt(at);
                break;
            case 2:
                all.insert(at, token);
                break;
            case 3:
                all.insert(at, " " + token + " ");
                break;
            case 4:
                all.setCharAt(at, token.charAt(0));
                break;
            default:
                int to = Math.min(all.length(), at + 1 + r.nextInt(8));
                all.replace(at, to, " " + token + " ");
        }
    }

    private int upTo(int n) {
        return r.nextInt(60) == 0 ? n + 1 : r.nextInt(n + 1);
    }

    private String line() {
        String[] names = {"a", "bo", "cee", "zzzzzz", "x", "yy", "sees", "fieldz"};
        String name = names[r.nextInt(names.length)];
        switch (r.nextInt(14)) {
            case 0: case 1: case 2:
                return "crop " + upTo(5) % 6 + " " + upTo(3) + " " + upTo(99);
            case 3: case 4: case 5:
                return "scare " + name + " " + upTo(2) + " " + upTo(1) + " " + upTo(9) + " " + upTo(9) + " " + upTo(9);
            case 6: case 7: {
                int first = upTo(11);
                return "flap " + name + " " + first + " " + (r.nextInt(9) == 0 ? upTo(11) : Math.min(11, first + r.nextInt(4)));
            }
            case 8:
                return "wind " + upTo(9);
            case 9:
                return "most " + upTo(12);
            case 10:
                return r.nextBoolean() ? "crows " + upTo(99) : "gust " + upTo(10);
            case 11:
                return "seed " + upTo(99999);
            default:
                return "law " + TOKENS[10 + r.nextInt(3)] + " " + e(r.nextInt(r.nextInt(3) == 0 ? 12 : 6));
        }
    }

    private String e(int levels) {
        if (levels == 0) {
            return r.nextBoolean() ? TOKENS[16 + r.nextInt(7)] : String.valueOf(upTo(9999));
        }
        String gap = r.nextBoolean() ? " " : "";
        switch (r.nextInt(6)) {
            case 0: case 1:
                return "(" + e(levels - 1) + ")";
            case 2:
                return "not " + e(levels - 1);
            case 3:
                return e(levels - 1) + gap + TOKENS[25 + r.nextInt(6)] + gap + e(levels / 3);
            case 4:
                return e(levels / 2) + gap + TOKENS[31 + r.nextInt(4)] + gap + e(levels - 1);
            default:
                return e(levels / 2) + (r.nextBoolean() ? " and " : " or ") + e(levels - 1);
        }
    }
}
