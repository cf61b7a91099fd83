/** ==== 3. and promises 26 to 31: each sentence that names an edge, on both sides of it. */
public final class EdgeNoteTest {
    private static final int NONE = CrowRota.NONE;
    private static final int LEAST = Integer.MIN_VALUE;
    private static final int MOST = Integer.MAX_VALUE;
    private static final String ONE = "field 1 1;crop 0 0 50;scare al 0 0 0 1 1;crows 1;";

    public static void main(String[] args) {
        note();
        noteFull();
        noteAtLeastOrLess();
        noteHours();
        out();
        outFull();
        struckChain();
        struckTwice();
        known();
        knownFromNowOn();
        fitsNone();
        fitsAlone();
        fitsFromTheTextOn();
        chanceWrong();
        chanceTimes();
        chanceNumbers();
        chanceDays();
        triedWrong();
        tried();
        triedSights();
        triedAsItGoes();
        Due.end();
    }

    private static void note() {
        CrowRota x = Due.of("field 6 5;");
        int[] hours = {0, 49, -1, LEAST, MOST};
        int[] cells = {-1, 30, 32, LEAST, MOST};
        int[] crops = {-1, 100, LEAST, MOST};
        for (int k = 0; k < 2; k++) {
            boolean atLeast = k == 0;
            for (int wrong : hours) {
                Due.is("hours " + wrong, x.note(wrong, 0, 0, atLeast), NONE);
            }
            for (int wrong : cells) {
                Due.is("cell " + wrong, x.note(1, wrong, 0, atLeast), NONE);
            }
            for (int wrong : crops) {
                Due.is("crop " + wrong, x.note(1, 0, wrong, atLeast), NONE);
            }
        }
        Due.is("none was noted", x.count(13), 0);
        Due.is("the least of all", x.note(1, 0, 0, false), 0);
        Due.is("the most of all", x.note(48, 29, 99, true), 1);
        Due.is("two were", x.count(13), 2);
        CrowRota y = Due.of("field 3 2;");
        Due.is("the last CELL", y.note(1, 5, 0, true), 0);
        Due.is("behind it", y.note(1, 6, 0, true), NONE);
    }

    /** "at most 24, numbered from 0 on" */
    private static void noteFull() {
        CrowRota x = Due.of(ONE);
        for (int k = 0; k < 24; k++) {
            Due.is("notes", x.count(13), k);
            Due.is("note " + k, x.note(1 + k, 0, k, true), k);
        }
        for (int k = 0; k < 3; k++) {
            Due.is("a 25th", x.note(1, 0, 0, true), NONE);
            Due.is("a 25th that strikes", x.out(0), NONE);
        }
        Due.is("24", x.count(13), 24);
        Due.is("the 24th is one of them", x.known(24), true);
        Due.is("there is no 25th", x.known(25), false);
        CrowRota y = Due.of(ONE);
        for (int k = 0; k < 23; k++) {
            y.note(1, 0, 0, true);
        }
        Due.is("23 fit", y.fits(0), 4095);
        Due.is("the 24th", y.note(1, 0, 50, true), 23);
        Due.is("counts", y.fits(0), 1);
        Due.is("not the 25th", y.note(1, 0, 99, true), NONE);
        Due.is("counts", y.fits(0), 1);
    }

    /** "CROP of a CELL was at least so much, or less" */
    private static void noteAtLeastOrLess() {
        // nobody FLAPS behind HOUR 0: 49 behind one HOUR, but 50 if al does at HOUR 0
        int[] crops = {0, 48, 49, 50, 51, 99};
        int[] atLeast = {4095, 4095, 4095, 1, 0, 0};
        int[] less = {0, 0, 0, 4094, 4095, 4095};
        for (int k = 0; k < crops.length; k++) {
            CrowRota x = Due.of(ONE);
            x.note(1, 0, crops[k], true);
            Due.is("at least " + crops[k], x.fits(0), atLeast[k]);
            CrowRota y = Due.of(ONE);
            y.note(1, 0, crops[k], false);
            Due.is("less than " + crops[k], y.fits(0), less[k]);
        }
        CrowRota x = Due.of(ONE);
        x.note(1, 0, 49, true);
        x.note(1, 0, 50, false);
        Due.is("just 49", x.fits(0), 4094);
        x.note(1, 0, 49, false);
        Due.is("all of them", x.fits(0), 0);
    }

    /** "behind so many HOURS 1 .. 48 (as it goes from the TEXT on)" */
    private static void noteHours() {
        // EATEN 1 each HOUR, but not where it is scared once, and is expected at that HOUR the DAY behind, and so on
        for (int hours = 1; hours <= 48; hours++) {
            CrowRota x = Due.of("field 1 1;crop 0 0 99;scare al 0 0 0 1 1;flap al 0 11;crows 1;");
            int bits = 0;
            for (int hour = 0; hour < 12; hour++) {
                CrowRota y = Due.of("field 1 1;crop 0 0 99;scare al 0 0 0 1 1;flap al " + hour + " " + hour + ";crows 1;");
                y.go(hours);
                bits |= y.cell(0, 0) >= 100 - hours ? 1 << hour : 0;
            }
            x.note(hours, 0, 100 - hours, true);
            Due.is("at least " + (100 - hours) + " behind " + hours, x.fits(0), bits);
            Due.is("which is if it FLAPPED ahead", bits, hours < 12 ? (1 << hours) - 1 : 4095);
        }
    }

    /** "A note that strikes a NOTE: its number; NONE: no such NOTE": one ahead of it. */
    private static void out() {
        CrowRota x = Due.of(ONE);
        int[] wrong = {-1, 0, 1, 23, 24, 32, LEAST, MOST};
        for (int no : wrong) {
            Due.is("out of " + no + ", none is there", x.out(no), NONE);
        }
        x.note(1, 0, 0, false);
        Due.is("fits none", x.fits(0), 0);
        int[] others = {-1, 1, 2, 24, 32, LEAST, MOST};
        for (int no : others) {
            Due.is("out of " + no, x.out(no), NONE);
        }
        Due.is("none was noted", x.count(13), 1);
        Due.is("fits none", x.fits(0), 0);
        Due.is("the first", x.out(0), 1);
        Due.is("STRUCK", x.fits(0), 4095);
        Due.is("itself", x.out(2), NONE);
        Due.is("the last one", x.out(1), 2);
        Due.is("not STRUCK any more", x.fits(0), 0);
    }

    private static void outFull() {
        CrowRota x = Due.of(ONE);
        for (int k = 0; k < 23; k++) {
            x.note(1, 0, 0, k < 22);
        }
        Due.is("the 23rd fits none", x.fits(0), 0);
        Due.is("out as the 24th", x.out(22), 23);
        Due.is("STRUCK", x.fits(0), 4095);
        Due.is("the 24th can't be", x.out(23), NONE);
        Due.is("STRUCK still", x.fits(0), 4095);
        CrowRota y = Due.of(ONE);
        y.note(1, 0, 0, false);
        for (int k = 0; k < 23; k++) {
            Due.is("each strikes the one ahead", y.out(k), k + 1);
            Due.is("the first one counts or not", y.fits(0), k % 2 == 0 ? 4095 : 0);
        }
        Due.is("one more", y.out(23), NONE);
        for (int n = 0; n <= 24; n++) {
            Due.is("known by " + n, y.known(n), true);
            Due.is("the first one of " + n, y.fits(0), n == 0 || n % 2 == 0 ? 4095 : 0);
        }
    }

    /** "(what strikes may be STRUCK: then it doesn't count; asked from the last one on)" */
    private static void struckChain() {
        CrowRota x = Due.of(ONE);
        x.note(1, 0, 50, true);
        x.note(2, 0, 49, true);
        Due.is("HOUR 0", x.fits(0), 1);
        x.out(0);
        Due.is("HOURS 0 and 1", x.fits(0), 3);
        x.out(2);
        Due.is("HOUR 0", x.fits(0), 1);
        x.out(3);
        Due.is("HOURS 0 and 1", x.fits(0), 3);
        x.out(1);
        Due.is("none is left", x.fits(0), 4095);
        x.known(4);
        Due.is("the first four", x.fits(0), 1);
        x.known(3);
        Due.is("the first three", x.fits(0), 3);
    }

    /** Several that strike one: it is STRUCK, if one of them counts. */
    private static void struckTwice() {
        CrowRota x = Due.of(ONE);
        x.note(1, 0, 50, true);
        x.out(0);
        x.out(0);
        Due.is("by both", x.fits(0), 4095);
        x.out(1);
        Due.is("by the second alone", x.fits(0), 4095);
        x.out(2);
        Due.is("by none", x.fits(0), 1);
        x.out(0);
        Due.is("by the last", x.fits(0), 4095);
        // a NOTE that is told again isn't STRUCK
        x.note(1, 0, 50, true);
        Due.is("told again", x.fits(0), 1);
    }

    private static void known() {
        CrowRota x = Due.of(ONE);
        int[] wrong = {-2, 1, 24, LEAST, MOST};
        for (int n : wrong) {
            Due.is("known(" + n + ") of none", x.known(n), false);
        }
        Due.is("known(0) of none", x.known(0), true);
        Due.is("known(-1) of none", x.known(-1), true);
        x.note(1, 0, 50, true);
        x.note(1, 0, 50, false);
        int[] others = {-2, 3, 24, 25, LEAST, MOST};
        for (int n : others) {
            Due.is("known(" + n + ") of two", x.known(n), false);
            Due.is("by all still", x.count(14), 2);
        }
        int[] fits = {4095, 1, 0};
        for (int n = 0; n <= 2; n++) {
            for (int turn = 0; turn < 2; turn++) {
                Due.is("known(" + n + ")", x.known(n), true);
                Due.is("by " + n, x.count(14), n);
                Due.is("fits by " + n, x.fits(0), fits[n]);
            }
        }
        Due.is("known(3)", x.known(3), false);
        Due.is("by 2 still", x.count(14), 2);
        Due.is("by all", x.known(-1), true);
        Due.is("two", x.count(14), 2);
    }

    /** "from now on (-1: by all, also those to come)" */
    private static void knownFromNowOn() {
        CrowRota x = Due.of(ONE);
        x.known(0);
        x.note(1, 0, 0, false);
        Due.is("by 0 still", x.count(14) * 10000 + x.fits(0), 4095);
        x.known(1);
        x.note(1, 0, 50, true);
        Due.is("by 1 still", x.count(14) * 10000 + x.fits(0), 10000);
        x.out(0);
        Due.is("what strikes isn't KNOWN", x.count(14) * 10000 + x.fits(0), 10000);
        x.known(3);
        Due.is("it is", x.count(14) * 10000 + x.fits(0), 30001);
        x.known(-1);
        x.note(1, 0, 50, false);
        Due.is("by all, also those to come", x.count(14) * 10000 + x.fits(0), 40000);
        CrowRota y = Due.of(ONE);
        Due.is("all at first", y.note(1, 0, 50, true) * 10000 + y.fits(0), 1);
    }

    private static void fitsNone() {
        CrowRota x = Due.of(ONE);
        int[] wrong = {-1, 1, 6, LEAST, MOST};
        for (int scare : wrong) {
            Due.is("fits(" + scare + ")", x.fits(scare), NONE);
        }
        Due.is("no NOTES: all HOURS", x.fits(0), 4095);
        Due.is("nobody is told", new CrowRota().fits(0), NONE);
        x.note(1, 0, 0, false);
        Due.is("what never was: no HOUR", x.fits(0), 0);
    }

    /** "HOURS (bits) by which alone it would have been on the ROTA, in place of its own" */
    private static void fitsAlone() {
        CrowRota x = Due.of("field 1 1;crop 0 0 50;scare al 0 0 0 1 1;scare bo 0 0 0 1 1;flap al 0 11;flap bo 1 2;crows 1;");
        x.note(12, 0, 41, true);
        // bo scares at HOURS 1 and 2, al at one more
        Due.is("al: one HOUR beside bo's", x.fits(0), 4095 - 6);
        Due.is("bo: al is there all day", x.fits(1), 4095);
        x.note(12, 0, 41, false);
        Due.is("none", x.fits(0), 0);
        CrowRota y = Due.of(ONE + "most 0;");
        y.note(1, 0, 50, true);
        Due.is("most 0: no HOUR", y.fits(0), 0);
        CrowRota z = Due.of(ONE + "most 1;");
        z.note(1, 0, 50, true);
        Due.is("most 1: the one HOUR", z.fits(0), 1);
        z.note(13, 0, 39, true);
        Due.is("the DAY behind they don't come at that HOUR", z.fits(0), 1);
        z.note(13, 0, 40, true);
        Due.is("more", z.fits(0), 0);
    }

    private static void fitsFromTheTextOn() {
        CrowRota x = Due.of(ONE + "scare bo 0 0 0 1 1;wind 0;wind 9;gust 9;");
        x.note(12, 0, 39, true);
        Due.is("at the TEXT", x.fits(0), 4095);
        x.flap(1, 3, true);
        x.go(30);
        Due.is("30 HOURS later", x.fits(0), 4095);
        x.note(24, 0, 39, true);
        Due.is("WINDS as told: a gust on DAY 1", x.fits(0), 4095);
        x.note(24, 0, 40, true);
        Due.is("one more", x.fits(0), 0);
        // others' STRIKES and hats by call weren't there at the TEXT
        CrowRota y = Due.of(ONE + "scare bo 0 0 0 1 1;flap bo 3 3;law see grade=1;");
        y.note(4, 0, 48, true);
        int bits = y.fits(0);
        Due.is("bo at HOUR 3, al at one ahead of it", bits, 7);
        y.strike(1, true);
        Due.is("bo on STRIKE by call", y.fits(0), bits);
        y.strike(1, false);
        y.hat(1, 5);
        Due.is("bo's hat by call", y.fits(0), bits);
        y.hat(0, 5);
        Due.is("al's hat by call", y.fits(0), bits);
        y.strike(0, true);
        Due.is("al on STRIKE by call", y.fits(0), bits);
        y.flap(0, 11, true);
        y.flap(1, 3, false);
        Due.is("the ROTA by call", y.fits(0), bits);
        y.go(12);
        Due.is("a DAY later", y.fits(0), bits);
    }

    private static void chanceWrong() {
        CrowRota x = Due.of(ONE);
        int[] seeds = {-1, LEAST};
        for (int seed : seeds) {
            Due.is("seed " + seed, x.chance(seed, 1, 0), NONE);
        }
        int[] days = {0, 10, -1, LEAST, MOST};
        for (int n : days) {
            Due.is("days " + n, x.chance(1, n, 0), NONE);
        }
        int[] bounds = {-1, 10000, LEAST, MOST};
        for (int bound : bounds) {
            Due.is("bound " + bound, x.chance(1, 1, bound), NONE);
        }
        Due.is("seed 0", x.chance(0, 1, 0), 10);
        Due.is("seed 2147483647", x.chance(MOST, 9, 0), 10);
        Due.is("bound 9999", x.chance(0, 1, 9999), 0);
    }

    /** "In how many of ten times drawn at least a bound is EATEN" */
    private static void chanceTimes() {
        // 12 today, 12 on each DAY: no WIND makes a gust
        CrowRota x = Due.of("field 1 1;crop 0 0 99;crows 1;scare al 0 0 0 1 1;");
        for (int n = 1; n <= 7; n++) {
            Due.is("just as much in " + n, x.chance(5, n, 12 + 12 * n), 10);
            Due.is("one more in " + n, x.chance(5, n, 12 + 12 * n + 1), 0);
        }
        Due.is("all there is", x.chance(5, 9, 99), 10);
        Due.is("one more", x.chance(5, 9, 100), 0);
        x.go(11);
        Due.is("today's rest is one HOUR", x.chance(5, 1, 13), 10);
        Due.is("one more", x.chance(5, 1, 14), 0);
    }

    private static int[] winds(int seed, int n) {
        long last = seed;
        int[] all = new int[n];
        for (int k = 0; k < n; k++) {
            last = (last * 1103515245L + 12345L) % (1L << 31);
            all[k] = (int) (last / 65536 % 10);
        }
        return all;
    }

    /** What is EATEN in DAY 0 and n behind it, of which these are the WINDS. */
    private static int eaten(String told, int[] winds, int at, int n) {
        StringBuilder text = new StringBuilder(told).append("wind 0;");
        for (int day = 0; day < n; day++) {
            text.append("wind ").append(winds[at + day]).append(';');
        }
        CrowRota x = Due.of(text.toString());
        for (int day = 0; day <= n; day++) {
            x.go(12);
        }
        return x.count(9);
    }

    /** "numbers from a seed 0 .. 2147483647 on, one behind another" */
    private static void chanceNumbers() {
        String told = "field 2 1;crop 0 0 99;crop 1 0 98;scare al 0 0 0 1 1;flap al 0 3;gust 5;law eat wind+1;";
        int[] seeds = {0, 1, 2, 65535, 65536, 12345, 1000000007, 2147483646, 2147483647};
        for (int seed : seeds) {
            for (int n = 1; n <= 9; n += 4) {
                int[] winds = winds(seed, 10 * n);
                int[] all = new int[10];
                for (int draw = 0; draw < 10; draw++) {
                    all[draw] = eaten(told, winds, draw * n, n);
                }
                CrowRota x = Due.of(told + "wind 0;wind 9;wind 9;seed 99;");
                for (int draw = 0; draw < 10; draw += 3) {
                    int atLeast = 0;
                    int more = 0;
                    for (int one : all) {
                        atLeast += one >= all[draw] ? 1 : 0;
                        more += one > all[draw] ? 1 : 0;
                    }
                    Due.is("seed " + seed + ", days " + n + ", bound " + all[draw], x.chance(seed, n, all[draw]), atLeast);
                    Due.is("seed " + seed + ", days " + n + ", more", x.chance(seed, n, all[draw] + 1), more);
                }
            }
        }
    }

    /** "WIND of today as it is, of n DAYS behind it numbers" */
    private static void chanceDays() {
        // EATEN is the WIND alone: today's at HOUR 5, and that of the DAYS behind it
        String told = "field 1 1;crop 0 0 99;law eat (hour=5)*wind;";
        int[] winds = winds(4711, 20);
        CrowRota x = Due.of(told + "wind 3;wind 7;wind 7;wind 7;");
        int least = 99;
        int most = 0;
        for (int draw = 0; draw < 10; draw++) {
            int eaten = 3 + winds[2 * draw] + winds[2 * draw + 1];
            least = Math.min(least, eaten);
            most = Math.max(most, eaten);
        }
        Due.is("the least of ten", x.chance(4711, 2, least), 10);
        Due.is("some have more", x.chance(4711, 2, least + 1) < 10, true);
        Due.is("some have the most", x.chance(4711, 2, most) > 0, true);
        Due.is("none has more", x.chance(4711, 2, most + 1), 0);
        Due.is("as it is told still", x.ahead(3, 0), 17);
        x.go(12);
        Due.is("as it is told still", x.count(9), 3);
        Due.is("a DAY later 7 is today's", x.chance(4711, 2, least + 4), 10);
        Due.is("a DAY later", x.chance(4711, 2, most + 5), 0);
        Due.is("wind stays", x.wind(2), 7);
    }

    private static void triedWrong() {
        CrowRota x = Due.of("field 1 1;crop 0 0 99;crows 1;scare al 0 0 0 1 1;scare bo 0 0 0 1 1;");
        int[] whats = {-1, 6, LEAST, MOST};
        for (int what : whats) {
            Due.is("what " + what, x.tried(what, 0, 1), NONE);
        }
        int[] days = {0, 10, -1, LEAST, MOST};
        int[] other = {-1, 1, 2, LEAST, MOST};
        for (int what = 0; what < 6; what++) {
            for (int n : days) {
                Due.is("what " + what + ", days " + n, x.tried(what, 0, n), NONE);
            }
            for (int i : other) {
                Due.is("what " + what + ", i " + i, x.tried(what, i, 1), what == 2 && i == 1 ? 12 : NONE);
            }
            Due.is("what " + what + ", i 0", x.tried(what, 0, 1), what == 4 ? 0 : 12);
            Due.is("nine days", x.tried(what, 0, 9), what == 4 ? 0 : 99);
        }
        Due.is("nobody is told", new CrowRota().tried(2, 0, 1), NONE);
        for (int what = 0; what < 6; what++) {
            Due.is("nobody is told, what " + what, new CrowRota().tried(what, 0, 1), what == 2 ? NONE : 60);
        }
    }

    private static void tried() {
        // DAY 0: al scares at HOURS 0 and 1; DAY 1: they don't come at these, but in a gust al FLAPS all day
        String told = "field 1 1;crop 0 0 99;crows 1;scare al 0 0 0 1 1;flap al 0 3;most 2;wind 0;wind 0;wind 9;gust 9;";
        CrowRota x = Due.of(told);
        int[][] due = {{10, 20, 20}, {12, 24, 24}, {12, 24, 36}, {10, 20, 20}, {0, 0, 0}, {8, 16, 16}};
        for (int what = 0; what < 6; what++) {
            for (int n = 1; n <= 3; n++) {
                Due.is("what " + what + " in " + n, x.tried(what, 0, n), due[what][n - 1]);
            }
        }
        Due.is("as it goes", x.ahead(1, 0) * 100 + x.ahead(2, 0), 1020);
        // 0: they expect nobody anywhere, so they are scared on DAY 1 as well and are SEEN in no other CELL
        CrowRota y = Due.of("field 2 1;crop 0 0 60;crop 1 0 50;scare al 0 0 0 1 1;flap al 0 11;crows 1;");
        Due.is("DAY 1 as it goes: the other CELL", y.ahead(2, 0), 12);
        Due.is("they expect nobody anywhere", y.tried(0, 0, 2), 0);
        y.go(12);
        Due.is("also what is kept of the DAY ahead", y.tried(0, 0, 1), 0);
        Due.is("as it goes", y.ahead(1, 0), 12);
        // 1: all, also those who are on STRIKE already
        CrowRota z = Due.of("field 1 1;crop 0 0 99;crows 1;scare al 0 0 0 1 1;scare bo 0 0 0 1 1;flap al 0 0;flap bo 1 1;");
        z.strike(0, true);
        Due.is("as it goes", z.ahead(1, 0), 11);
        Due.is("all on STRIKE", z.tried(1, 0, 1), 12);
        Due.is("al isn't there", z.tried(2, 0, 1), 11);
        Due.is("bo isn't there", z.tried(2, 1, 1), 12);
        Due.is("al alone is on STRIKE still", z.scare(0, 5) * 10 + z.scare(1, 5), 10);
        Due.is("most is 12, on STRIKE or not", z.tried(5, 0, 1), 11);
        Due.is("all FLAP, on STRIKE or not", z.tried(4, 0, 1), 0);
        z.strike(1, true);
        Due.is("all FLAP, all on STRIKE", z.tried(4, 0, 1), 0);
        Due.is("bo is on STRIKE still", z.tried(5, 0, 1), 12);
        CrowRota v = Due.of("field 1 1;crop 0 0 99;crows 1;scare al 0 0 0 1 1;flap al 0 11;most 3;");
        Due.is("as it goes", v.ahead(1, 0), 9);
        Due.is("most is 12: all HOURS of a DAY", v.tried(5, 0, 1), 0);
        // five others are there: SCARE 5 alone isn't
        CrowRota w = Due.of("field 1 1;crop 0 0 99;crows 1;scare a 0 0 0 0 0;scare b 0 0 0 0 0;scare c 0 0 0 0 0;scare d 0 0 0 0 0;"
            + "scare e 0 0 0 0 0;scare f 0 0 0 0 0;flap a 0 0;flap b 1 1;flap c 2 2;flap d 3 3;flap e 4 4;flap f 5 7;");
        int[] without = {5, 5, 5, 5, 5, 7};
        for (int i = 0; i < 6; i++) {
            Due.is("without " + i, w.tried(2, i, 1), without[i]);
        }
        Due.is("all on STRIKE", w.tried(1, 0, 1), 12);
        Due.is("scare 6", w.tried(2, 6, 1), NONE);
    }

    /** "3 all SIGHTS are more by 1" */
    private static void triedSights() {
        CrowRota x = Due.of("field 3 1;crop 0 0 99;crop 1 0 0;crop 2 0 0;crows 1;scare al 2 0 1 1 1;flap al 0 11;");
        Due.is("FAR is 2, SIGHT 1", x.ahead(1, 0), 12);
        Due.is("FAR is 2, SIGHT 2", x.tried(3, 0, 1), 0);
        for (int what = 0; what < 6; what++) {
            Due.is("FAR is 2, what " + what, x.tried(what, 0, 1), what == 3 ? 0 : 12);
        }
        CrowRota y = Due.of("field 3 1;crop 0 0 99;crop 1 0 0;crop 2 0 0;crows 1;scare al 2 0 0 1 1;flap al 0 11;");
        Due.is("FAR is 2, SIGHT 1", y.tried(3, 0, 1), 12);
        CrowRota z = Due.of("field 1 1;crop 0 0 99;crows 1;scare al 0 0 9 1 1;flap al 0 11;law see sight=10;law eat 1;");
        Due.is("SIGHT 9 is 10 then", z.tried(3, 0, 1), 0);
        Due.is("9 as it goes", z.ahead(1, 0), 12);
        Due.is("SIGHT stays", z.scare(0, 1) * 10 + z.sees(0, 0), 90);
    }

    /** "for n DAYS as it goes": from now on, with the ROTA, STRIKES and hats as they are; all stays. */
    private static void triedAsItGoes() {
        CrowRota x = Due.of("field 1 1;crop 0 0 99;crows 1;scare al 0 0 0 1 1;scare bo 0 0 0 1 1;flap al 0 11;most 3;");
        x.go(11);
        int[] due = {1, 1, 1, 1, 0, 0};
        for (int what = 0; what < 6; what++) {
            Due.is("HOUR 11, what " + what, x.tried(what, 0, 1), due[what]);
        }
        x.flap(1, 11, true);
        Due.is("bo at HOUR 11", x.tried(2, 0, 1) * 10 + x.tried(2, 1, 1), 1);
        Due.is("all stays", x.count(9) * 100 + x.count(6), 811);
        Due.is("what can be undone", x.count(15), 1);
    }
}
