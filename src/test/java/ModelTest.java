import java.util.ArrayList;
import java.util.Arrays;
import java.util.List;
import java.util.Random;

/** All promises on many TEXTS and calls by lot (always the same ones), each answer against the Model's. */
public final class ModelTest {
    private final Random r;
    private final CrowRota x = new CrowRota();
    private Model told;
    private Model m;
    private Model image;
    private final List<Model> steps = new ArrayList<>();
    private final List<int[]> notes = new ArrayList<>();
    private int knownBy = -1;
    private String text;
    private String[] names;
    private int flaps;
    private int winds;
    private int knots;

    private ModelTest(int seed) {
        r = new Random(seed);
    }

    public static void main(String[] args) {
        for (int seed = 0; seed < 150; seed++) {
            ModelTest test = new ModelTest(seed);
            // several TEXTS to one object, so that what one leaves behind would be seen
            for (int telling = 0; telling < 3; telling++) {
                test.tell();
                for (int call = 0; call < 60; call++) {
                    test.call();
                }
            }
        }
        Due.end();
    }

    private String gap() {
        String[] gaps = {" ", "  ", "\n", " \n"};
        return gaps[r.nextInt(4)];
    }

    private String line(Object... words) {
        StringBuilder all = new StringBuilder();
        for (Object word : words) {
            all.append(all.length() == 0 ? "" : gap()).append(word);
        }
        return all.append(r.nextBoolean() ? "" : gap()).append(';').toString();
    }

    private void tell() {
        do {
            tryToTell();
        } while (text.length() > 700 || knots > 64);
        int lines = text.length() - text.replace(";", "").length();
        if (r.nextInt(3) == 0 && lines > 0) {
            Due.is("text without its end", Due.text(x, text.trim().substring(0, text.trim().length() - 1)), -1);
        }
        Due.is("text " + text, Due.text(x, text), lines);
        m = told.twin();
        image = null;
        steps.clear();
        notes.clear();
        knownBy = -1;
    }

    private void tryToTell() {
        told = new Model();
        StringBuilder all = new StringBuilder();
        if (r.nextInt(4) != 0) {
            told.wide = 1 + r.nextInt(6);
            told.high = 1 + r.nextInt(5);
            all.append(line("field", told.wide, told.high));
        }
        told.crop = new int[told.high][told.wide];
        for (int[] row : told.crop) {
            Arrays.fill(row, 10);
        }
        told.seen = new boolean[12][told.high][told.wide];
        List<String> lines = new ArrayList<>();
        tellCrops(lines);
        tellNumbers(lines);
        tellWinds(lines);
        tellLaws(lines);
        tellScares(lines);
        for (String line : lines) {
            all.append(line).append(r.nextInt(5) == 0 ? "\n" : "");
        }
        text = all.toString();
    }

    private void tellCrops(List<String> lines) {
        int n = r.nextInt(9);
        boolean[][] is = new boolean[told.high][told.wide];
        for (int k = 0; k < n; k++) {
            int a = r.nextInt(told.wide);
            int b = r.nextInt(told.high);
            if (!is[b][a]) {
                is[b][a] = true;
                told.crop[b][a] = r.nextInt(4) == 0 ? 0 : r.nextInt(100);
                lines.add(line("crop", a, b, told.crop[b][a]));
            }
        }
    }

    private void tellNumbers(List<String> lines) {
        if (r.nextInt(2) == 0) {
            told.most = r.nextInt(13);
            lines.add(line("most", told.most));
        }
        if (r.nextInt(2) == 0) {
            told.crows = r.nextInt(r.nextInt(3) == 0 ? 100 : 8);
            lines.add(line("crows", told.crows));
        }
        if (r.nextInt(2) == 0) {
            told.gust = r.nextInt(11);
            lines.add(line("gust", told.gust));
        }
        if (r.nextInt(4) == 0) {
            lines.add(line("seed", r.nextInt(100000)));
        }
    }

    private void tellWinds(List<String> lines) {
        winds = r.nextInt(8);
        for (int day = 0; day < winds; day++) {
            told.winds[day] = r.nextInt(10);
            lines.add(line("wind", told.winds[day]));
        }
    }

    private Model.Node tellLaw(List<String> lines, String rule) {
        if (r.nextInt(5) < 2) {
            return null;
        }
        Model.Node law = Model.random(r, r.nextInt(5));
        if (law.open() > 8) {
            return null;
        }
        knots += law.knots();
        lines.add(r.nextInt(lines.size() + 1), line("law", rule, law.write()));
        return law;
    }

    private void tellLaws(List<String> lines) {
        // the order of WIND lines must stay: laws may come between all of them
        knots = 0;
        told.see = tellLaw(lines, "see");
        told.eat = tellLaw(lines, "eat");
        told.pay = tellLaw(lines, "pay");
    }

    private void tellScares(List<String> lines) {
        int n = r.nextInt(7);
        names = new String[n];
        flaps = 0;
        for (int i = 0; i < n; i++) {
            Model.Scare s = new Model.Scare();
            s.x = r.nextInt(told.wide);
            s.y = r.nextInt(told.high);
            s.sight = r.nextInt(r.nextInt(3) == 0 ? 10 : 4);
            s.pay = r.nextInt(10);
            s.grade = r.nextInt(10);
            told.scares.add(s);
            names[i] = "x" + "abcdefgh".substring(i, i + 1 + r.nextInt(2));
            lines.add(line("scare", names[i], s.x, s.y, s.sight, s.pay, s.grade));
        }
        for (int k = r.nextInt(11); k > 0 && n > 0; k--) {
            int scare = r.nextInt(n);
            int first = r.nextInt(12);
            int last = first + r.nextInt(12 - first);
            for (int h = first; h <= last; h++) {
                told.scares.get(scare).rota[h] = true;
            }
            flaps++;
            lines.add(line("flap", names[scare], first, last));
        }
    }

    private int aScare() {
        return r.nextInt(8) - 1;
    }

    private boolean isScare(int i) {
        return i >= 0 && i < m.scares.size();
    }

    private int aCell() {
        return r.nextInt(m.wide * m.high + 2) - 1;
    }

    private boolean isCell(int cell) {
        return cell >= 0 && cell < m.wide * m.high;
    }

    private void is(String call, long got, long want) {
        Due.is(call + " (day " + m.day + ", hour " + m.hour + ") of " + text, got, want);
    }

    private void call() {
        int which = r.nextInt(34);
        if (which < 12) {
            change(which);
        } else if (which < 23) {
            look(which);
        } else {
            ask(which);
        }
    }

    private void change(int which) {
        int i = aScare();
        boolean is = r.nextBoolean();
        Model ahead = m.twin();
        switch (which) {
            case 0: case 1: {
                int h = r.nextInt(14) - 1;
                boolean can = isScare(i) && h >= 0 && h < 12 && m.scares.get(i).rota[h] != is;
                is("flap " + i + " " + h + " " + is, x.flap(i, h, is) ? 1 : 0, can ? 1 : 0);
                if (can) {
                    m.scares.get(i).rota[h] = is;
                    steps.add(ahead);
                }
                break;
            }
            case 2: {
                boolean can = isScare(i) && m.scares.get(i).strike != is;
                is("strike " + i + " " + is, x.strike(i, is) ? 1 : 0, can ? 1 : 0);
                if (can) {
                    m.scares.get(i).strike = is;
                    steps.add(ahead);
                }
                break;
            }
            case 3: {
                int grade = r.nextInt(12) - 1;
                boolean can = isScare(i) && grade >= 0 && grade < 10 && m.scares.get(i).grade != grade;
                is("hat " + i + " " + grade, x.hat(i, grade) ? 1 : 0, can ? 1 : 0);
                if (can) {
                    m.scares.get(i).grade = grade;
                    steps.add(ahead);
                }
                break;
            }
            case 4: case 5: case 6: {
                int n = r.nextInt(10) == 0 ? r.nextInt(102) - 1 : r.nextInt(5);
                boolean can = n >= 0 && n <= 99 && m.day * 12 + m.hour + n < 12000;
                for (int k = 0; k < n && can; k++) {
                    m.pass();
                    steps.clear();
                }
                is("go " + n, x.go(n), can ? m.hour : -1);
                break;
            }
            case 7: case 8: {
                boolean can = !steps.isEmpty();
                if (can) {
                    m = steps.remove(steps.size() - 1);
                }
                is("undo", x.undo(), can ? steps.size() : -1);
                break;
            }
            case 9: {
                image = m.twin();
                is("keep", x.keep(), m.day);
                break;
            }
            case 10: {
                if (image != null && r.nextInt(3) == 0) {
                    m = image.twin();
                    steps.clear();
                    is("back", x.back(), m.day);
                }
                break;
            }
            default: {
                int n = r.nextInt(notes.size() + 3) - 1;
                n = r.nextBoolean() ? -1 : n;
                boolean can = n >= -1 && n <= notes.size();
                knownBy = can ? n : knownBy;
                is("known " + n, x.known(n) ? 1 : 0, can ? 1 : 0);
            }
        }
        while (steps.size() > 20) {
            steps.remove(0);
        }
    }

    private int bits(boolean[] is) {
        int all = 0;
        for (int k = 0; k < is.length; k++) {
            all |= is[k] ? 1 << k : 0;
        }
        return all;
    }

    private int asked(int cell, int what) {
        try {
            return x.cell(cell, what);
        } catch (IndexOutOfBoundsException e) {
            return -100;
        } catch (java.util.NoSuchElementException e) {
            return -200;
        }
    }

    private long law(Long value) {
        return value == null ? Long.MIN_VALUE : value;
    }

    private int seenNow(int a, int b) {
        for (int i = 0; i < m.scares.size(); i++) {
            if (m.flaps(i) != 0 && m.sees(m.scares.get(i), a, b)) {
                return 1;
            }
        }
        return 0;
    }

    private void look(int which) {
        int i = aScare();
        int cell = aCell();
        int a = isCell(cell) ? cell % m.wide : 0;
        int b = isCell(cell) ? cell / m.wide : 0;
        Model.Scare s = isScare(i) ? m.scares.get(i) : null;
        switch (which) {
            case 12: case 13: {
                int what = r.nextInt(5) - 1;
                int want = !isCell(cell) ? -100 : what < 0 || what > 2 ? -200 : what == 0 ? m.crop[b][a]
                    : what == 1 ? m.seen[m.hour][b][a] ? 1 : 0 : seenNow(a, b);
                is("cell " + cell + " " + what, asked(cell, what), want);
                break;
            }
            case 14: {
                int what = r.nextInt(10) - 1;
                int want = s == null || what < 0 || what > 7 ? -1 : new int[] {s.y * m.wide + s.x, s.sight, s.pay, s.grade,
                    bits(s.rota), s.strike ? 1 : 0, s.flapped, m.flaps(i)}[what];
                is("scare " + i + " " + what, x.scare(i, what), want);
                break;
            }
            case 15: {
                int day = r.nextInt(5) == 0 ? 998 + r.nextInt(4) : r.nextInt(12) - 1;
                is("wind " + day, x.wind(day), day < 0 || day > 999 ? -1 : m.winds[day]);
                break;
            }
            case 16:
                is("sees " + i + " " + cell, x.sees(i, cell), s == null || !isCell(cell) ? -1 : m.sees(s, a, b) ? 1 : 0);
                break;
            case 17:
                is("law 0 " + i + " " + cell, x.law(0, i, cell), law(s == null || !isCell(cell) ? null : m.lawSee(s, a, b)));
                break;
            case 18:
                is("law 1 " + i + " " + cell, x.law(1, i, cell), law(!isCell(cell) ? null : m.lawEat(a, b)));
                break;
            case 19:
                is("law 2 " + i + " " + cell, x.law(2, i, cell), law(s == null ? null : m.lawPay(s)));
                break;
            case 20: {
                int h = r.nextInt(14) - 1;
                int all = 0;
                for (int k = 0; k < m.wide * m.high && h >= 0 && h < 12; k++) {
                    boolean in = m.crop[k / m.wide][k % m.wide] > 0 && !m.seen[h][k / m.wide][k % m.wide];
                    all |= in ? 1 << k : 0;
                }
                is("expects " + h, x.expects(h), h < 0 || h > 11 ? -1 : all);
                break;
            }
            case 21:
                if (names.length > 0) {
                    int k = r.nextInt(names.length);
                    is("named " + names[k], x.named(Due.letters(names[k])), Arrays.asList(names).indexOf(names[k]));
                }
                break;
            default:
                counts();
        }
    }

    private void counts() {
        int crop = 0;
        int strikes = 0;
        for (int[] row : m.crop) {
            for (int one : row) {
                crop += one;
            }
        }
        for (Model.Scare s : m.scares) {
            strikes += s.strike ? 1 : 0;
        }
        int[] want = {m.wide, m.high, m.scares.size(), flaps, winds, knots, m.hour, m.day, crop, m.eaten, m.spent,
            m.scared, strikes, notes.size(), knownBy < 0 ? notes.size() : knownBy, steps.size()};
        int what = r.nextInt(18) - 1;
        is("count " + what, x.count(what), what < 0 || what > 15 ? -1 : want[what]);
    }

    private int cropSeen(Model.Scare one, Model.Scare other) {
        int sum = 0;
        for (int b = 0; b < m.high; b++) {
            for (int a = 0; a < m.wide; a++) {
                sum += m.sees(one, a, b) && m.sees(other, a, b) ? m.crop[b][a] : 0;
            }
        }
        return sum;
    }

    private void ask(int which) {
        int i = aScare();
        int j = aScare();
        int n = r.nextInt(11);
        boolean days = n >= 1 && n <= 9;
        int what = r.nextInt(4) - 1;
        switch (which) {
            case 23: {
                Model d = days ? m.fresh().days(n) : m;
                is("ahead " + n + " " + what, x.ahead(n, what),
                    !days || what < 0 ? -1 : new int[] {d.eaten, d.spent, d.scared}[what]);
                break;
            }
            case 24:
                is("clash " + what, x.clash(what), what != 0 && what != 1 ? -1 : m.clash()[what]);
                break;
            case 25: {
                n = n > 4 ? 1 : n;
                boolean can = isScare(i) && n >= 1 && n <= 3 && (what == 0 || what == 1) && r.nextInt(4) == 0;
                if (can || n < 1 || n > 3) {
                    is("keeping " + i + " " + n + " " + what, x.keeping(i, n, what), can ? m.keeping(i, n)[what] : -1);
                }
                break;
            }
            case 26: {
                is("allSeen", x.allSeen(), m.allSeen());
                int idle = 0;
                for (int k = 0; k < m.scares.size(); k++) {
                    idle |= cropSeen(m.scares.get(k), m.scares.get(k)) == 0 ? 1 << k : 0;
                }
                is("idle", x.idle(), idle);
                break;
            }
            case 27: {
                int sight = r.nextInt(12) - 1;
                boolean can = sight >= 0 && sight <= 9 && (what == 0 || what == 1);
                is("oneMore " + sight + " " + what, x.oneMore(sight, what), can ? m.oneMore(sight)[what] : -1);
                break;
            }
            case 28: {
                boolean can = isScare(i) && days && (what == 0 || what == 1);
                is("costs " + i + " " + n + " " + what, x.costs(i, n, what), can ? m.costs(i, n)[what] : -1);
                break;
            }
            case 29: {
                boolean can = isScare(i) && isScare(j) && i != j && (what == 0 || what == 1);
                int want = !can ? -1 : what == 0 ? bits(m.scares.get(i).rota) & bits(m.scares.get(j).rota)
                    : cropSeen(m.scares.get(i), m.scares.get(j));
                is("both " + i + " " + j + " " + what, x.both(i, j, what), want);
                break;
            }
            case 30: {
                int c = aCell();
                int d = aCell();
                what = r.nextInt(6) - 1;
                boolean can = isScare(i) && isScare(j) && i != j && isCell(c) && isCell(d) && c != d && what >= 0 && what < 4;
                is("lot " + i + " " + j + " " + c + " " + d + " " + what, x.lot(i, j, c, d, what),
                    can ? m.lot(i, j, c, d)[what] : -1);
                break;
            }
            case 31: {
                int turnips = r.nextInt(3) == 0 ? r.nextInt(10003) - 1 : r.nextInt(40);
                boolean can = isScare(i) && turnips >= 0 && turnips <= 9999;
                is("share " + turnips + " " + i, x.share(turnips, i), can ? m.shares(turnips)[i] : -1);
                break;
            }
            case 32:
                askNotes(i);
                break;
            default:
                askWinds(i, n, days);
        }
    }

    private void askNotes(int i) {
        int which = r.nextInt(3);
        if (which == 0) {
            int h = r.nextInt(50);
            int cell = aCell();
            int crop = r.nextInt(4) == 0 ? r.nextInt(102) - 1 : r.nextInt(11);
            boolean atLeast = r.nextBoolean();
            boolean can = h >= 1 && h <= 48 && isCell(cell) && crop >= 0 && crop <= 99 && notes.size() < 24;
            is("note " + h + " " + cell + " " + crop + " " + atLeast, x.note(h, cell, crop, atLeast),
                can ? notes.size() : -1);
            if (can) {
                notes.add(new int[] {h, cell, crop, atLeast ? 1 : 0});
            }
        } else if (which == 1) {
            int k = r.nextInt(notes.size() + 2) - 1;
            boolean can = k >= 0 && k < notes.size() && notes.size() < 24;
            is("out " + k, x.out(k), can ? notes.size() : -1);
            if (can) {
                notes.add(new int[] {k});
            }
        } else {
            is("fits " + i + " of " + notes.size() + " by " + knownBy, x.fits(i), isScare(i) ? fits(i) : -1);
        }
    }

    /** Whether a NOTE isn't STRUCK by one of the first n. */
    private boolean stands(int note, int n) {
        for (int k = note + 1; k < n; k++) {
            if (notes.get(k).length == 1 && notes.get(k)[0] == note && stands(k, n)) {
                return false;
            }
        }
        return true;
    }

    private int fits(int scare) {
        int n = knownBy < 0 ? notes.size() : knownBy;
        int all = 0;
        for (int h = 0; h < 12; h++) {
            boolean fits = true;
            for (int k = 0; k < n; k++) {
                int[] note = notes.get(k);
                if (note.length > 1 && stands(k, n)) {
                    Model d = told.twin();
                    d.scares.get(scare).rota = Model.hours(1 << h);
                    for (int hour = 0; hour < note[0]; hour++) {
                        d.pass();
                    }
                    int crop = d.crop[note[1] / d.wide][note[1] % d.wide];
                    fits &= note[3] == 1 ? crop >= note[2] : crop < note[2];
                }
            }
            all |= fits ? 1 << h : 0;
        }
        return all;
    }

    private void askWinds(int i, int n, boolean days) {
        if (r.nextBoolean()) {
            int seed = r.nextInt(6) == 0 ? -1 - r.nextInt(9) : r.nextInt() & 0x7fffffff;
            int bound = r.nextInt(8) == 0 ? -1 : r.nextInt(8) == 0 ? 10000 : r.nextInt(300);
            boolean can = seed >= 0 && days && bound >= 0 && bound <= 9999;
            if (can && r.nextInt(3) != 0) {
                // near to what is due, so that it tells something
                bound = m.fresh().days(n + 1).eaten;
            }
            is("chance " + seed + " " + n + " " + bound, x.chance(seed, n, bound), can ? m.chance(seed, n, bound) : -1);
        } else {
            int what = r.nextInt(8) - 1;
            i = what == 2 || r.nextInt(5) == 0 ? i : 0;
            boolean can = days && what >= 0 && what <= 5 && (what == 2 ? isScare(i) : i == 0);
            is("tried " + what + " " + i + " " + n, x.tried(what, i, n), can ? m.tried(what, i, n) : -1);
        }
    }
}
