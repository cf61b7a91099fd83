import java.math.BigInteger;
import java.util.ArrayList;
import java.util.List;
import java.util.Random;

/** The document told once more, as plainly as it can be, to compare answers with; no care for speed. */
final class Model {
    /** An E that writes itself and works itself out (null is an ERROR). */
    static final class Node {
        private static final BigInteger BOUND = BigInteger.TEN.pow(12);
        final String sign;
        final Node left;
        final Node right;

        Node(String sign, Node left, Node right) {
            this.sign = sign;
            this.left = left;
            this.right = right;
        }

        int knots() {
            return 1 + (left == null ? 0 : left.knots()) + (right == null ? 0 : right.knots());
        }

        /** 0 or, 1 and, 2 not, 3 comparison, 4 sum, 5 product, 6 part. */
        private int rank() {
            switch (sign) {
                case "or": return 0;
                case "and": return 1;
                case "not": return 2;
                case "<": case "<=": case "=": case "<>": case ">=": case ">": return 3;
                case "+": case "-": return 4;
                case "*": case "/": return 5;
                default: return 6;
            }
        }

        private String inside(int least) {
            return rank() < least ? "(" + write() + ")" : write();
        }

        String write() {
            int rank = rank();
            if (rank == 6) {
                return sign;
            }
            if (rank == 2) {
                return "not " + left.inside(2);
            }
            if (rank == 3) {
                return left.inside(4) + sign + right.inside(4);
            }
            return left.inside(rank) + " " + sign + " " + right.inside(rank + 1);
        }

        int open() {
            String text = write();
            int deepest = 0;
            int open = 0;
            for (char c : text.toCharArray()) {
                open += c == '(' ? 1 : c == ')' ? -1 : 0;
                deepest = Math.max(deepest, open);
            }
            return deepest;
        }

        Long value(long[] names) {
            BigInteger value = big(names);
            return value == null ? null : value.longValueExact();
        }

        private static BigInteger truth(boolean is) {
            return is ? BigInteger.ONE : BigInteger.ZERO;
        }

        private BigInteger big(long[] names) {
            if (Character.isDigit(sign.charAt(0))) {
                return new BigInteger(sign);
            }
            int name = List.of("sight", "far", "wind", "hour", "grade", "ripe", "date").indexOf(sign);
            if (name >= 0) {
                return BigInteger.valueOf(names[name]);
            }
            BigInteger a = left.big(names);
            BigInteger b = right == null ? BigInteger.ZERO : right.big(names);
            if (a == null || b == null) {
                return null;
            }
            BigInteger is;
            switch (sign) {
                case "or": is = truth(a.signum() != 0 || b.signum() != 0); break;
                case "and": is = truth(a.signum() != 0 && b.signum() != 0); break;
                case "not": is = truth(a.signum() == 0); break;
                case "<": is = truth(a.compareTo(b) < 0); break;
                case "<=": is = truth(a.compareTo(b) <= 0); break;
                case "=": is = truth(a.equals(b)); break;
                case "<>": is = truth(!a.equals(b)); break;
                case ">=": is = truth(a.compareTo(b) >= 0); break;
                case ">": is = truth(a.compareTo(b) > 0); break;
                case "+": is = a.add(b); break;
                case "-": is = a.subtract(b); break;
                case "*": is = a.multiply(b); break;
                default: is = b.signum() == 0 ? null : a.divide(b);
            }
            return is == null || is.abs().compareTo(BOUND) > 0 ? null : is;
        }
    }

    /** A SCARE, as it is told and as it is now. */
    static final class Scare implements Cloneable {
        int x;
        int y;
        int sight;
        int pay;
        int grade;
        boolean[] rota = new boolean[12];
        boolean strike;
        int flapped;

        Scare twin() {
            try {
                Scare other = (Scare) clone();
                other.rota = rota.clone();
                return other;
            } catch (CloneNotSupportedException e) {
                throw new IllegalStateException(e);
            }
        }
    }

    int wide = 5;
    int high = 4;
    int most = 12;
    int crows = 5;
    int gust = 10;
    int[] winds = new int[2000];
    int[][] crop;
    boolean[][][] seen;
    List<Scare> scares = new ArrayList<>();
    Node see;
    Node eat;
    Node pay;
    int day;
    int hour;
    int eaten;
    int spent;
    int scared;
    boolean bold;
    boolean allFlap;
    int gone = -1;
    int sightMore;

    Model twin() {
        Model m = new Model();
        m.wide = wide;
        m.high = high;
        m.most = most;
        m.crows = crows;
        m.gust = gust;
        m.winds = winds.clone();
        m.crop = new int[high][];
        for (int y = 0; y < high; y++) {
            m.crop[y] = crop[y].clone();
        }
        m.seen = new boolean[12][high][];
        for (int h = 0; h < 12; h++) {
            for (int y = 0; y < high; y++) {
                m.seen[h][y] = seen[h][y].clone();
            }
        }
        for (Scare s : scares) {
            m.scares.add(s.twin());
        }
        m.see = see;
        m.eat = eat;
        m.pay = pay;
        m.day = day;
        m.hour = hour;
        m.eaten = eaten;
        m.spent = spent;
        m.scared = scared;
        return m;
    }

    private long[] names(Scare s, int far, int ripe) {
        return new long[] {s == null ? 0 : s.sight + sightMore, far, winds[day], hour, s == null ? 0 : s.grade, ripe, day};
    }

    static int far(int x, int y, int u, int v) {
        return Math.abs(x - u) + Math.abs(y - v);
    }

    Long lawSee(Scare s, int x, int y) {
        return see == null ? null : see.value(names(s, far(s.x, s.y, x, y), crop[y][x]));
    }

    Long lawEat(int x, int y) {
        return eat == null ? null : eat.value(names(null, 0, crop[y][x]));
    }

    Long lawPay(Scare s) {
        return pay == null ? null : pay.value(names(s, 0, 0));
    }

    boolean sees(Scare s, int x, int y) {
        Long by = lawSee(s, x, y);
        return by == null ? far(s.x, s.y, x, y) <= s.sight + sightMore : by != 0;
    }

    int meal(int x, int y) {
        Long by = lawEat(x, y);
        long wants = by == null ? crows : by < 0 ? 0 : by > 99 ? 99 : by;
        return (int) Math.min(wants, crop[y][x]);
    }

    /** 1 for pay, 2 for nothing, 0. */
    int flaps(int i) {
        Scare s = scares.get(i);
        if (i == gone) {
            return 0;
        }
        if (allFlap) {
            return 2;
        }
        if (s.rota[hour] && !s.strike && s.flapped < most) {
            return 1;
        }
        return winds[day] >= gust ? 2 : 0;
    }

    void pass() {
        boolean[][] now = new boolean[high][wide];
        for (int i = 0; i < scares.size(); i++) {
            Scare s = scares.get(i);
            int how = flaps(i);
            if (how == 1) {
                Long by = lawPay(s);
                spent += by == null ? s.pay : by < 0 ? 0 : by > 99 ? 99 : by;
                s.flapped++;
            }
            for (int y = 0; y < high && how != 0; y++) {
                for (int x = 0; x < wide; x++) {
                    now[y][x] |= sees(s, x, y);
                }
            }
        }
        int bestX = -1;
        int bestY = -1;
        for (int y = 0; y < high; y++) {
            for (int x = 0; x < wide; x++) {
                boolean free = bold || !seen[hour][y][x];
                if (free && crop[y][x] > 0 && (bestX < 0 || crop[y][x] > crop[bestY][bestX])) {
                    bestX = x;
                    bestY = y;
                }
            }
        }
        if (bestX >= 0 && now[bestY][bestX]) {
            scared++;
        } else if (bestX >= 0) {
            int meal = meal(bestX, bestY);
            crop[bestY][bestX] -= meal;
            eaten += meal;
        }
        seen[hour] = now;
        if (++hour == 12) {
            hour = 0;
            day++;
            for (Scare s : scares) {
                s.flapped = 0;
            }
        }
    }

    /** A twin from which nothing is EATEN, SPENT, SCARED yet. */
    Model fresh() {
        Model m = twin();
        m.eaten = 0;
        m.spent = 0;
        m.scared = 0;
        return m;
    }

    Model days(int n) {
        int last = day + n;
        while (day < last) {
            pass();
        }
        return this;
    }

    int[] clash() {
        Model m = fresh();
        int today = day;
        while (m.day == today) {
            for (int i = 0; i < m.scares.size(); i++) {
                Scare s = m.scares.get(i);
                if (s.rota[m.hour] && !s.strike && s.flapped >= most) {
                    return new int[] {m.hour, i};
                }
            }
            m.pass();
        }
        return new int[] {-2, -2};
    }

    static boolean[] hours(int bits) {
        boolean[] is = new boolean[12];
        for (int h = 0; h < 12; h++) {
            is[h] = (bits >> h & 1) == 1;
        }
        return is;
    }

    int[] keeping(int scare, int n) {
        int[] best = null;
        for (int bits = 0; bits < 4096; bits++) {
            int size = Integer.bitCount(bits);
            if (size <= 3 && size <= most) {
                Model m = fresh();
                m.scares.get(scare).rota = hours(bits);
                m.days(n);
                boolean better = best == null || m.eaten < best[1]
                    || m.eaten == best[1] && size < Integer.bitCount(best[0]);
                if (better) {
                    best = new int[] {bits, m.eaten};
                }
            }
        }
        return best;
    }

    int allSeen() {
        for (int size = 0; size <= scares.size(); size++) {
            for (int bits = 0; bits < 1 << scares.size(); bits++) {
                if (Integer.bitCount(bits) == size && all(bits)) {
                    return bits;
                }
            }
        }
        return -2;
    }

    private boolean all(int bits) {
        for (int y = 0; y < high; y++) {
            for (int x = 0; x < wide; x++) {
                boolean seenHere = crop[y][x] == 0;
                for (int i = 0; i < scares.size(); i++) {
                    seenHere |= (bits >> i & 1) == 1 && sees(scares.get(i), x, y);
                }
                if (!seenHere) {
                    return false;
                }
            }
        }
        return true;
    }

    int[] oneMore(int sight) {
        int[] best = {-1, -1};
        for (int cell = 0; cell < wide * high; cell++) {
            Scare s = new Scare();
            s.x = cell % wide;
            s.y = cell / wide;
            s.sight = sight;
            int sum = 0;
            for (int y = 0; y < high; y++) {
                for (int x = 0; x < wide; x++) {
                    boolean covered = false;
                    for (Scare other : scares) {
                        covered |= other.rota[hour] && sees(other, x, y);
                    }
                    sum += !covered && sees(s, x, y) ? crop[y][x] : 0;
                }
            }
            if (sum > best[1]) {
                best = new int[] {cell, sum};
            }
        }
        return best;
    }

    int[] costs(int scare, int n) {
        Model on = fresh();
        on.scares.get(scare).strike = true;
        on.days(n);
        Model off = fresh();
        off.scares.get(scare).strike = false;
        off.days(n);
        return new int[] {Math.max(0, on.eaten - off.eaten), Math.max(0, off.spent - on.spent)};
    }

    int[] lot(int one, int other, int cell, int otherCell) {
        int[] scare = {one, other};
        int[] at = {cell, otherCell};
        int[][] m = new int[2][2];
        for (int r = 0; r < 2; r++) {
            for (int c = 0; c < 2; c++) {
                int x = at[c] % wide;
                int y = at[c] / wide;
                m[r][c] = sees(scares.get(scare[r]), x, y) ? 0 : meal(x, y);
            }
        }
        for (int r = 0; r < 2; r++) {
            for (int c = 0; c < 2; c++) {
                if (m[r][c] <= m[1 - r][c] && m[r][c] >= m[r][1 - c]) {
                    return new int[] {r == 0 ? 1 : 0, 1, m[r][c], 1};
                }
            }
        }
        // p m00 + (1-p) m10 = p m01 + (1-p) m11
        int below = m[0][0] - m[1][0] - m[0][1] + m[1][1];
        int[] p = least(m[1][1] - m[1][0], below);
        int[] mean = least(p[0] * m[0][0] + (p[1] - p[0]) * m[1][0], p[1]);
        return new int[] {p[0], p[1], mean[0], mean[1]};
    }

    private static int[] least(int above, int below) {
        int by = BigInteger.valueOf(above).gcd(BigInteger.valueOf(below)).intValue();
        int sign = below < 0 ? -1 : 1;
        return new int[] {sign * above / by, sign * below / by};
    }

    int[] shares(int turnips) {
        int all = 0;
        for (Scare s : scares) {
            all += s.grade + 1;
        }
        int[] share = new int[scares.size()];
        int[] part = new int[scares.size()];
        int left = turnips;
        for (int i = 0; i < share.length; i++) {
            int gives = turnips * (scares.get(i).grade + 1);
            share[i] = gives / all;
            part[i] = gives % all;
            left -= share[i];
        }
        for (; left > 0; left--) {
            int best = 0;
            for (int i = 1; i < share.length; i++) {
                best = part[i] > part[best] ? i : best;
            }
            share[best]++;
            part[best] = -1;
        }
        return share;
    }

    int chance(int seed, int n, int bound) {
        long last = seed;
        int times = 0;
        for (int draw = 0; draw < 10; draw++) {
            Model m = fresh();
            for (int k = 1; k <= n; k++) {
                last = (last * 1103515245L + 12345L) % (1L << 31);
                m.winds[day + k] = (int) (last / 65536 % 10);
            }
            times += m.days(n + 1).eaten >= bound ? 1 : 0;
        }
        return times;
    }

    int tried(int what, int i, int n) {
        Model m = fresh();
        m.bold = what == 0;
        for (Scare s : m.scares) {
            s.strike |= what == 1;
        }
        m.gone = what == 2 ? i : -1;
        m.sightMore = what == 3 ? 1 : 0;
        m.allFlap = what == 4;
        m.most = what == 5 ? 12 : most;
        return m.days(n).eaten;
    }

    /** A random E of so many levels. */
    static Node random(Random r, int levels) {
        if (levels == 0 || r.nextInt(5) == 0) {
            String[] names = {"sight", "far", "wind", "hour", "grade", "ripe", "date"};
            return r.nextInt(3) == 0 ? new Node("" + r.nextInt(r.nextInt(20) == 0 ? 10000 : 12), null, null)
                : new Node(names[r.nextInt(7)], null, null);
        }
        String[] signs = {"or", "and", "not", "<", "<=", "=", "<>", ">=", ">", "+", "-", "*", "/", "+", "-", "*", "/"};
        String sign = signs[r.nextInt(signs.length)];
        Node left = random(r, levels - 1);
        return new Node(sign, left, sign.equals("not") ? null : random(r, levels - 1));
    }
}
