/** ==== 3. and promises 15 to 25: each sentence that names an edge, on both sides of it. */
public final class EdgeAskTest {
    private static final int NONE = CrowRota.NONE;
    private static final int LEAST = Integer.MIN_VALUE;
    private static final int MOST = Integer.MAX_VALUE;

    public static void main(String[] args) {
        aheadWrong();
        aheadAsItGoes();
        aheadBeyondTheLastDay();
        clashWrong();
        clashHours();
        clashMost();
        clashOfSeveral();
        clashOfSix();
        keepingWrong();
        keepingThreeAtMost();
        keepingFewestThenLeast();
        keepingTodaysRest();
        keepingInPlaceOfItsOwn();
        keepingOneBehindAnother();
        keepingMuch();
        keepingFirstAndLastCell();
        keepingByAllRotas();
        allSeen();
        allSeenFewest();
        oneMoreWrong();
        oneMore();
        oneMoreOnTheRota();
        costsWrong();
        costs();
        both();
        expects();
        idle();
        lotWrong();
        lotSure();
        lotByOdds();
        lotMeals();
        shareWrong();
        share();
        Due.end();
    }

    private static void aheadWrong() {
        CrowRota x = Due.of("field 1 1;scare al 0 0 0 3 0;flap al 0 0;crows 1;");
        int[] days = {0, 10, -1, LEAST, MOST};
        for (int n : days) {
            for (int what = 0; what < 3; what++) {
                Due.is("ahead(" + n + ", " + what + ")", x.ahead(n, what), NONE);
            }
        }
        int[] whats = {-1, 3, LEAST, MOST};
        for (int what : whats) {
            Due.is("ahead(1, " + what + ")", x.ahead(1, what), NONE);
        }
        for (int n = 1; n <= 9; n++) {
            Due.is("spent in " + n, x.ahead(n, 1), 3 * n);
            Due.is("scared in " + n, x.ahead(n, 2), 1);
        }
    }

    private static final String MANY = "field 3 2;crop 0 0 99;crop 2 1 90;crows 2;scare al 0 0 1 3 0;scare bo 2 1 0 4 5;"
        + "flap al 1 5;flap bo 0 11;most 4;wind 2;wind 7;wind 3;gust 7;law eat (hour+date*3+ripe)/17;";

    /** "so many DAYS ... (today's rest is the first)": what go() makes of these HOURS. */
    private static void aheadAsItGoes() {
        int[] hours = {0, 1, 11, 12, 23};
        for (int from : hours) {
            for (int n = 1; n <= 9; n++) {
                CrowRota x = Due.of(MANY);
                x.go(from);
                int eaten = x.ahead(n, 0);
                int spent = x.ahead(n, 1);
                int scared = x.ahead(n, 2);
                eaten += x.count(9);
                spent += x.count(10);
                scared += x.count(11);
                int left = n * 12 - from % 12;
                x.go(left / 2);
                x.go(left - left / 2);
                Due.is("eaten from " + from + " in " + n, eaten, x.count(9));
                Due.is("spent from " + from + " in " + n, spent, x.count(10));
                Due.is("scared from " + from + " in " + n, scared, x.count(11));
                Due.is("it is HOUR 0 then", x.count(6), 0);
            }
        }
    }

    private static void aheadBeyondTheLastDay() {
        CrowRota x = Due.of("field 1 1;crop 0 0 99;law eat date/999;scare al 0 0 0 2 0;flap al 0 0;law pay date/1000;");
        for (int k = 0; k < 121; k++) {
            x.go(99);
        }
        x.go(20);
        Due.is("the last HOUR of all", x.count(7) * 100 + x.count(6), 99911);
        Due.is("that HOUR", x.ahead(1, 0), 1);
        Due.is("as it goes on, but at HOUR 0 they expect al", x.ahead(2, 0), 1 + 11);
        Due.is("nine DAYS", x.ahead(9, 1), 8);
        Due.is("strike as it goes on", x.costs(0, 9, 1), 8);
        Due.is("keeping as it goes on", x.keeping(0, 3, 1) <= x.ahead(3, 0), true);
        Due.is("chance as it goes on", x.chance(1, 9, 0), 10);
        Due.is("tried as it goes on", x.tried(1, 0, 2), 12);
        Due.is("it is where it was", x.count(7) * 100 + x.count(6), 99911);
    }

    private static void clashWrong() {
        CrowRota x = Due.of("scare al 0 0 0 0 0;flap al 0 0;most 0;");
        int[] whats = {-1, 2, -2, LEAST, MOST};
        for (int what : whats) {
            Due.is("clash(" + what + ")", x.clash(what), NONE);
            Due.is("clash(" + what + ") of none", new CrowRota().clash(what), NONE);
        }
        Due.is("hour", x.clash(0), 0);
        Due.is("scare", x.clash(1), 0);
        Due.is("none", new CrowRota().clash(0), -2);
        Due.is("none", new CrowRota().clash(1), -2);
    }

    /** "the first HOUR from now to HOUR 11 of today" */
    private static void clashHours() {
        for (int hour = 0; hour < 12; hour++) {
            CrowRota x = Due.of("scare al 0 0 0 0 0;flap al " + hour + " " + hour + ";most 0;");
            for (int now = 0; now < 12; now++) {
                Due.is("hour " + hour + " at " + now, x.clash(0), now <= hour ? hour : -2);
                Due.is("scare of hour " + hour + " at " + now, x.clash(1), now <= hour ? 0 : -2);
                x.go(1);
            }
            Due.is("the DAY behind", x.clash(0), hour);
        }
    }

    /** "has FLAPPED for pay as often as most by then" */
    private static void clashMost() {
        for (int most = 0; most <= 12; most++) {
            CrowRota x = Due.of("scare al 0 0 0 0 0;flap al 0 11;most " + most + ";");
            for (int now = 0; now < 12; now++) {
                Due.is("most " + most + " at " + now, x.clash(0), most == 12 ? -2 : Math.max(most, now));
                x.go(1);
            }
            x.strike(0, true);
            Due.is("on STRIKE", x.clash(0), -2);
        }
        // the HOURS in which it FLAPS for nothing aren't counted
        CrowRota x = Due.of("scare al 0 0 0 0 0;flap al 3 5;most 2;gust 0;");
        Due.is("in a gust", x.clash(0), 5);
        x.go(4);
        Due.is("in a gust, one HOUR for pay ahead", x.clash(0), 5);
        x.flap(0, 5, false);
        Due.is("one HOUR less", x.clash(0), -2);
    }

    /** "a SCARE (the first of several)" */
    private static void clashOfSeveral() {
        CrowRota x = Due.of("scare al 0 0 0 0 0;scare bo 0 0 0 0 0;scare ce 0 0 0 0 0;flap al 3 8;flap bo 2 8;flap ce 2 8;most 1;");
        Due.is("bo ahead of ce, and ahead of al", x.clash(0) * 10 + x.clash(1), 31);
        x.strike(1, true);
        Due.is("ce", x.clash(0) * 10 + x.clash(1), 32);
        x.strike(2, true);
        Due.is("al", x.clash(0) * 10 + x.clash(1), 40);
        x.strike(0, true);
        Due.is("none", x.clash(1), -2);
    }

    private static void clashOfSix() {
        String six = "scare a 0 0 0 0 0;scare b 0 0 0 0 0;scare c 0 0 0 0 0;scare d 0 0 0 0 0;scare e 0 0 0 0 0;scare f 0 0 0 0 0;";
        for (int i = 0; i < 6; i++) {
            CrowRota x = Due.of(six + "most 1;flap " + (char) ('a' + i) + " 4 5;");
            Due.is("the one of six", x.clash(0) * 10 + x.clash(1), 50 + i);
        }
        Due.is("none of six", Due.of(six).clash(1), -2);
    }

    private static void keepingWrong() {
        CrowRota x = Due.of("field 1 1;crop 0 0 99;crows 1;scare al 0 0 0 1 1;");
        int[] wrong = {-1, 1, 6, LEAST, MOST};
        for (int scare : wrong) {
            Due.is("scare " + scare, x.keeping(scare, 1, 0), NONE);
        }
        int[] days = {0, 4, -1, LEAST, MOST};
        for (int n : days) {
            Due.is("days " + n, x.keeping(0, n, 0), NONE);
            Due.is("days " + n, x.keeping(0, n, 1), NONE);
        }
        int[] whats = {-1, 2, LEAST, MOST};
        for (int what : whats) {
            Due.is("what " + what, x.keeping(0, 1, what), NONE);
        }
        Due.is("one day", x.keeping(0, 1, 1), 9);
        Due.is("two days", x.keeping(0, 2, 1), 18);
        Due.is("three days", x.keeping(0, 3, 1), 27);
        Due.is("nobody is told", new CrowRota().keeping(0, 1, 0), NONE);
    }

    /** "bits, 3 at most, as many as most at most" */
    private static void keepingThreeAtMost() {
        int[] bits = {0, 1, 3, 7, 7};
        for (int most = 0; most <= 12; most += most < 4 ? 1 : 8) {
            CrowRota x = Due.of("field 1 1;crop 0 0 99;crows 1;scare al 0 0 0 1 1;flap al 0 11;most " + most + ";");
            int hours = Math.min(3, most);
            Due.is("most " + most, x.keeping(0, 1, 0), bits[hours]);
            Due.is("most " + most, x.keeping(0, 1, 1), 12 - hours);
        }
    }

    /** "of several the fewest HOURS, then the least bits" */
    private static void keepingFewestThenLeast() {
        // SEEN at some HOURS alone: those of which there are three or fewer, the least bits of more
        String[] laws = {"0", "hour=0", "hour=11", "hour>9", "hour>8", "hour>7", "hour=4 or hour=6", "hour<3", "hour=11 or hour<3"};
        int[] due = {0, 1, 2048, 3072, 3584, 1792, 80, 7, 7};
        for (int k = 0; k < laws.length; k++) {
            CrowRota x = Due.of("field 1 1;crop 0 0 99;crows 1;scare al 0 0 0 1 1;flap al 5 9;law see " + laws[k] + ";");
            Due.is("seen at " + laws[k], x.keeping(0, 1, 0), due[k]);
            Due.is("eaten, seen at " + laws[k], x.keeping(0, 1, 1), 12 - Integer.bitCount(due[k]));
        }
        // another one scares already, so that no HOUR keeps more
        CrowRota x = Due.of("field 1 1;crop 0 0 99;crows 1;scare al 0 0 0 1 1;scare bo 0 0 0 1 1;flap bo 0 11;");
        Due.is("others as they are", x.keeping(0, 1, 0) * 100 + x.keeping(0, 1, 1), 0);
        CrowRota y = Due.of("field 1 1;crop 0 0 99;crows 1;scare al 0 0 0 1 1;scare bo 0 0 0 1 1;flap bo 0 1;flap bo 3 11;");
        Due.is("the one HOUR", y.keeping(0, 1, 0), 4);
        // all is eaten in any case
        CrowRota z = Due.of("field 1 1;crop 0 0 9;crows 1;scare al 0 0 0 1 1;");
        Due.is("three HOURS: nine are eaten", z.keeping(0, 1, 0) * 100 + z.keeping(0, 1, 1), 9);
        CrowRota w = Due.of("field 1 1;crop 0 0 0;scare al 0 0 0 1 1;");
        Due.is("nothing is there", w.keeping(0, 1, 0) * 100 + w.keeping(0, 1, 1), 0);
        // one HOUR keeps as much as three of less bits, but not with one of them
        CrowRota u = Due.of("field 1 1;crop 0 0 50;scare al 0 0 0 1 1;law eat (hour<4)*(1+(hour=3)*2);law see hour<3 or ripe=47;");
        Due.is("the fewest HOURS, not the least bits", u.keeping(0, 1, 0) * 100 + u.keeping(0, 1, 1), 803);
        // three HOURS, of which one keeps a lot
        CrowRota v = Due.of("field 1 1;crop 0 0 99;scare al 0 0 0 1 1;law eat 1+(hour=5)*20+(hour=10)*10;");
        Due.is("hours 0, 5, 10", v.keeping(0, 1, 0), 1 | 32 | 1024);
        Due.is("eaten", v.keeping(0, 1, 1), 9);
    }

    /** "(today's rest is the first)" */
    private static void keepingTodaysRest() {
        for (int now = 0; now < 12; now++) {
            CrowRota x = Due.of("field 1 1;crop 0 0 99;crows 1;scare al 0 0 0 1 1;");
            x.go(now);
            int hours = Math.min(3, 12 - now);
            Due.is("hours at " + now, x.keeping(0, 1, 0), ((1 << hours) - 1) << now);
            Due.is("eaten at " + now, x.keeping(0, 1, 1), 12 - now - hours);
        }
        // FLAPPED today as often as most
        CrowRota y = Due.of("field 1 1;crop 0 0 99;crows 1;scare al 0 0 0 1 1;flap al 0 1;most 2;");
        y.go(1);
        Due.is("one more today", y.keeping(0, 1, 0), 2);
        y.go(1);
        Due.is("no more today", y.keeping(0, 1, 0) * 100 + y.keeping(0, 1, 1), 10);
        Due.is("a DAY behind, where they don't expect it", y.keeping(0, 2, 0) * 100 + y.keeping(0, 2, 1), 1200 + 18);
    }

    private static void keepingInPlaceOfItsOwn() {
        CrowRota x = Due.of("field 1 1;crop 0 0 99;crows 1;scare al 0 0 0 1 1;flap al 0 11;");
        Due.is("its own isn't there", x.keeping(0, 1, 1), 9);
        Due.is("its own stays", x.scare(0, 4), 4095);
        Due.is("as it goes", x.ahead(1, 0), 0);
        x.strike(0, true);
        Due.is("on STRIKE none keeps", x.keeping(0, 1, 0) * 100 + x.keeping(0, 1, 1), 12);
        CrowRota y = Due.of("field 1 1;crop 0 0 99;crows 1;scare al 0 0 0 1 1;gust 0;");
        Due.is("in a gust it FLAPS anyhow", y.keeping(0, 1, 0) * 100 + y.keeping(0, 1, 1), 0);
    }

    /** Each is worked out by what is now. */
    private static void keepingOneBehindAnother() {
        CrowRota x = Due.of("field 2 1;crop 0 0 99;crop 1 0 0;crows 1;scare al 0 0 0 1 0;scare bo 0 0 0 1 1;law see grade>hour-3;");
        Due.is("al", x.keeping(0, 1, 0) * 100 + x.keeping(0, 1, 1), 709);
        x.hat(0, 9);
        x.hat(1, 0);
        Due.is("al's hat", x.keeping(0, 1, 0), 7);
        x.go(3);
        Due.is("al at HOUR 3", x.keeping(0, 1, 0) * 100 + x.keeping(0, 1, 1), 5606);
        Due.is("bo at HOUR 3: none", x.keeping(1, 1, 0) * 100 + x.keeping(1, 1, 1), 9);
        x.hat(1, 1);
        Due.is("bo's hat: HOUR 3", x.keeping(1, 1, 0) * 100 + x.keeping(1, 1, 1), 808);
        x.hat(0, 0);
        Due.is("al without: none", x.keeping(0, 1, 0) * 100 + x.keeping(0, 1, 1), 9);
        Due.is("and as it goes", x.ahead(1, 0), 9);
        Due.is("a TEXT", Due.text(x, "field 2 1;crop 0 0 99;crop 1 0 0;crows 1;scare al 0 0 0 1 0;law see 0;"), 6);
        Due.is("nothing is SEEN", x.keeping(0, 1, 0) * 100 + x.keeping(0, 1, 1), 12);
    }

    /** As much as can be EATEN. */
    private static void keepingMuch() {
        StringBuilder text = new StringBuilder("field 6 5;law eat 99;scare al 0 0 9 1 1;law see 0;");
        for (int i = 0; i < 16; i++) {
            text.append("crop ").append(i % 6).append(' ').append(i / 6).append(" 99;");
        }
        CrowRota x = Due.of(text.toString());
        Due.is("one DAY", x.keeping(0, 1, 1), 12 * 99);
        Due.is("two DAYS", x.keeping(0, 2, 1), 16 * 99 + 80);
        Due.is("three DAYS: all", x.keeping(0, 3, 1), 16 * 99 + 140);
        Due.is("by no HOUR", x.keeping(0, 3, 0), 0);
        Due.is("as it goes", x.ahead(3, 0), 16 * 99 + 140);
    }

    /** First and last CELL, of alike CROP, and SCARES behind one another who SEE one of them, or none. */
    private static void keepingFirstAndLastCell() {
        for (int k = 0; k < 5; k++) {
            StringBuilder text = new StringBuilder("field 6 5;crop 0 0 50;crop 5 4 50;law eat hour=5;");
            for (int i = 0; i < 6; i++) {
                text.append("scare ").append((char) ('a' + i)).append(i == k ? " 0 0 0 0 0;" : i == k + 1 ? " 3 3 0 0 0;" : " 5 4 0 0 0;");
                text.append(i == k ? "" : "flap " + (char) ('a' + i) + " 0 11;");
            }
            CrowRota x = Due.of(text.toString());
            Due.is("at HOUR 5", x.keeping(k, 1, 0) * 100 + x.keeping(k, 1, 1), 3200);
            Due.is("the other can't", x.keeping(k + 1, 1, 0) * 100 + x.keeping(k + 1, 1, 1), 1);
        }
    }

    /** What is EATEN, if one has this ROTA by call. */
    private static int eaten(String told, int from, int scare, int bits, int n) {
        CrowRota x = new CrowRota();
        Due.text(x, told);
        x.go(from);
        for (int hour = 0; hour < 12; hour++) {
            x.flap(scare, hour, (bits >> hour & 1) != 0);
        }
        return x.ahead(n, 0);
    }

    /** All ROTAS of three HOURS and fewer are tried one by one. */
    private static void keepingByAllRotas() {
        String[] texts = {"field 3 2;crop 0 0 30;crop 2 1 28;crop 1 1 5;crows 3;scare al 0 0 1 0 0;scare bo 2 1 1 0 3;scare ce 1 0 0 0 1;"
            + "flap bo 2 4;flap ce 0 9;most 3;law eat (hour+3)*(wind+1)/4;wind 2;wind 5;",
            "field 3 2;crop 0 0 30;crop 1 0 29;crop 2 1 28;scare al 0 0 1 0 2;scare bo 2 1 1 0 1;scare ce 1 1 2 0 3;flap al 1 9;"
            + "flap ce 5 6;law see ripe+grade*3>27+far*2-hour/3 or far<sight and date;law eat ripe/5;gust 4;wind 3;wind 4;most 2;",
            "field 6 5;crop 0 0 99;crop 5 4 99;crop 1 0 98;crop 4 4 97;crop 0 1 96;crop 5 3 95;scare a 0 0 1 0 1;scare b 5 4 1 0 2;"
            + "scare c 0 0 0 0 3;scare d 5 4 0 0 4;scare e 2 2 1 0 5;scare f 3 3 1 0 6;flap a 1 8;flap b 2 9;flap c 5 5;flap d 0 6;"
            + "flap f 0 11;law see far*9+hour-grade<ripe-90+sight*9 or ripe=94-grade;law eat 1+hour/2+date;"};
        for (String told : texts) {
            int[][] asked = {{0, 0, 2}, {0, 1, 1}, {5, 2, 1}, {7, 0, 3}};
            for (int[] one : asked) {
                int best = -1;
                int least = MOST;
                for (int size = 0; size <= (told.contains("most 2") ? 2 : 3); size++) {
                    for (int bits = 0; bits < 4096; bits++) {
                        int eaten = Integer.bitCount(bits) == size ? eaten(told, one[0], one[1], bits, one[2]) : MOST;
                        if (eaten < least) {
                            least = eaten;
                            best = bits;
                        }
                    }
                }
                CrowRota x = Due.of(told);
                x.go(one[0]);
                Due.is("bits of " + one[1] + " at " + one[0] + " of " + told, x.keeping(one[1], one[2], 0), best);
                Due.is("eaten by " + one[1] + " at " + one[0] + " of " + told, x.keeping(one[1], one[2], 1), least);
            }
        }
    }

    private static void allSeen() {
        Due.is("nobody, all crop", new CrowRota().allSeen(), -2);
        Due.is("nobody, no crop", Due.of("field 1 1;crop 0 0 0;").allSeen(), 0);
        Due.is("somebody, no crop", Due.of("field 1 1;crop 0 0 0;scare al 0 0 9 0 0;").allSeen(), 0);
        Due.is("crop 1", Due.of("field 1 1;crop 0 0 1;scare al 0 0 0 0 0;").allSeen(), 1);
        Due.is("all but one", Due.of("field 3 1;scare al 0 0 1 0 0;").allSeen(), -2);
        Due.is("all", Due.of("field 3 1;scare al 0 0 2 0 0;").allSeen(), 1);
        Due.is("no crop in the one", Due.of("field 3 1;crop 2 0 0;scare al 0 0 1 0 0;").allSeen(), 1);
        Due.is("by law", Due.of("field 3 1;scare al 0 0 0 0 0;law see 1;").allSeen(), 1);
        CrowRota x = Due.of("field 1 1;scare al 0 0 0 0 0;law see hour=1;");
        Due.is("at HOUR 0", x.allSeen(), -2);
        x.go(1);
        Due.is("at HOUR 1", x.allSeen(), 1);
    }

    /** "the fewest SCARES (bits, of several the least)" */
    private static void allSeenFewest() {
        String six = "field 6 1;scare a 0 0 0 0 0;scare b 1 0 0 0 0;scare c 2 0 0 0 0;scare d 3 0 0 0 0;scare e 4 0 0 0 0;"
            + "scare f 5 0 0 0 0;";
        Due.is("all six", Due.of(six).allSeen(), 63);
        Due.is("all but the last", Due.of(six + "crop 5 0 0;").allSeen(), 31);
        Due.is("all but the first", Due.of(six + "crop 0 0 0;").allSeen(), 62);
        String pairs = "field 3 1;scare a 0 0 1 0 0;scare b 2 0 1 0 0;scare c 1 0 0 0 0;";
        Due.is("the least of several two", Due.of(pairs).allSeen(), 3);
        Due.is("one, though its bits are more", Due.of(pairs + "scare d 0 0 9 0 0;").allSeen(), 8);
        Due.is("the first of two", Due.of(pairs + "scare d 0 0 9 0 0;scare e 0 0 9 0 0;").allSeen(), 8);
        CrowRota x = Due.of(pairs);
        x.strike(0, true);
        Due.is("if they FLAPPED", x.allSeen(), 3);
    }

    private static void oneMoreWrong() {
        CrowRota x = Due.of("field 2 1;crop 0 0 3;crop 1 0 4;");
        int[] sights = {-1, 10, LEAST, MOST};
        for (int sight : sights) {
            Due.is("sight " + sight, x.oneMore(sight, 0), NONE);
            Due.is("sight " + sight, x.oneMore(sight, 1), NONE);
        }
        int[] whats = {-1, 2, LEAST, MOST};
        for (int what : whats) {
            Due.is("what " + what, x.oneMore(0, what), NONE);
        }
        Due.is("sight 0", x.oneMore(0, 0) * 10 + x.oneMore(0, 1), 14);
        Due.is("sight 9", x.oneMore(9, 0) * 10 + x.oneMore(9, 1), 7);
    }

    private static void oneMore() {
        Due.is("no crop: the first CELL", Due.of("field 1 1;crop 0 0 0;").oneMore(9, 0), 0);
        Due.is("no crop: none", Due.of("field 1 1;crop 0 0 0;").oneMore(9, 1), 0);
        CrowRota x = Due.of("field 6 5;crop 5 4 99;");
        Due.is("the last CELL", x.oneMore(0, 0) * 1000 + x.oneMore(0, 1), 29099);
        Due.is("the first that SEES most", x.oneMore(1, 0) * 1000 + x.oneMore(1, 1), 23000 + 99 + 30);
        Due.is("all from anywhere", x.oneMore(9, 0) * 1000 + x.oneMore(9, 1), 99 + 290);
        CrowRota y = Due.of("field 3 1;crop 0 0 5;crop 1 0 5;crop 2 0 5;");
        Due.is("the first of several", y.oneMore(0, 0) * 100 + y.oneMore(0, 1), 5);
        Due.is("SIGHT 1", y.oneMore(1, 0) * 100 + y.oneMore(1, 1), 115);
        // "of a SIGHT (GRADE 0)"
        CrowRota z = Due.of("field 3 1;scare al 0 0 9 0 9;law see grade=0 and sight=4;");
        Due.is("grade 0 and that sight", z.oneMore(4, 1), 30);
        Due.is("another sight", z.oneMore(5, 1), 0);
        CrowRota w = Due.of("field 3 1;law see grade;");
        Due.is("grade isn't above 0", w.oneMore(9, 1), 0);
        CrowRota v = Due.of("field 4 1;crop 2 0 0;law see far=2 and ripe>0;");
        Due.is("far, ripe", v.oneMore(0, 0) * 100 + v.oneMore(0, 1), 110);
        CrowRota u = Due.of("field 1 1;law see far>0;");
        Due.is("from a CELL of the field", u.oneMore(9, 0) * 100 + u.oneMore(9, 1), 0);
    }

    /** "that no SCARE on the ROTA for this HOUR SEES" */
    private static void oneMoreOnTheRota() {
        CrowRota x = Due.of("field 2 1;crop 0 0 9;crop 1 0 3;scare al 0 0 0 0 0;flap al 1 1;most 0;");
        Due.is("not at HOUR 0", x.oneMore(0, 0) * 10 + x.oneMore(0, 1), 9);
        CrowRota y = Due.of("field 2 1;crop 0 0 9;crop 1 0 3;scare al 0 0 0 0 0;flap al 0 0;most 0;crows 0;");
        Due.is("at HOUR 0, though it won't FLAP", y.oneMore(0, 0) * 10 + y.oneMore(0, 1), 13);
        y.strike(0, true);
        Due.is("on STRIKE as well", y.oneMore(0, 0) * 10 + y.oneMore(0, 1), 13);
        y.go(1);
        Due.is("not at HOUR 1", y.oneMore(0, 0) * 10 + y.oneMore(0, 1), 9);
        CrowRota z = Due.of("field 2 1;crop 0 0 9;scare al 0 0 9 0 0;flap al 0 0;");
        Due.is("all SEEN: the first CELL", z.oneMore(9, 0), 0);
        Due.is("all SEEN: none", z.oneMore(9, 1), 0);
        CrowRota v = Due.of("field 4 1;crop 0 0 9;crop 1 0 3;crop 2 0 8;crop 3 0 2;scare al 0 0 0 0 0;scare bo 2 0 0 0 0;flap al 0 0;flap bo 0 0;");
        Due.is("what neither SEES", v.oneMore(0, 0) * 10 + v.oneMore(0, 1), 13);
        Due.is("what neither SEES", v.oneMore(3, 0) * 10 + v.oneMore(3, 1), 5);
        CrowRota w = Due.of("field 2 1;crop 0 0 9;crop 1 0 3;scare al 0 0 0 0 0;gust 0;");
        Due.is("who FLAPS in a gust isn't on it", w.oneMore(0, 1), 9);
    }

    private static void costsWrong() {
        CrowRota x = Due.of("field 1 1;crop 0 0 99;crows 1;scare al 0 0 0 3 0;scare bo 0 0 0 4 0;flap al 0 0;");
        int[] wrong = {-1, 2, 6, LEAST, MOST};
        for (int scare : wrong) {
            Due.is("scare " + scare, x.costs(scare, 1, 0), NONE);
            Due.is("scare " + scare, x.costs(scare, 1, 1), NONE);
        }
        int[] days = {0, 10, -1, LEAST, MOST};
        for (int n : days) {
            Due.is("days " + n, x.costs(0, n, 0), NONE);
        }
        int[] whats = {-1, 2, LEAST, MOST};
        for (int what : whats) {
            Due.is("what " + what, x.costs(0, 1, what), NONE);
        }
        for (int n = 1; n <= 9; n++) {
            Due.is("spent less in " + n, x.costs(0, n, 1), 3 * n);
            Due.is("bo", x.costs(1, n, 0) * 10 + x.costs(1, n, 1), 0);
        }
        Due.is("nobody is told", new CrowRota().costs(0, 1, 0), NONE);
    }

    /** "from now on ... others as they are; 0 at least" */
    private static void costs() {
        CrowRota x = Due.of("field 1 1;crop 0 0 99;crows 1;scare al 0 0 0 3 0;scare bo 0 0 0 4 0;flap al 0 2;flap bo 2 3;");
        Due.is("al: hours 0 and 1", x.costs(0, 1, 0), 2);
        Due.is("bo: hour 3", x.costs(1, 1, 0), 1);
        x.strike(1, true);
        Due.is("al, if bo is on STRIKE", x.costs(0, 1, 0), 3);
        Due.is("bo, if it weren't", x.costs(1, 1, 0), 1);
        Due.is("bo's pay", x.costs(1, 1, 1), 8);
        Due.is("it is so still", x.scare(1, 5), 1);
        x.strike(1, false);
        x.go(1);
        Due.is("from HOUR 1 on", x.costs(0, 1, 0) * 10 + x.costs(0, 1, 1), 16);
        x.go(2);
        Due.is("from HOUR 3 on", x.costs(0, 1, 0) * 10 + x.costs(0, 1, 1), 0);
        // fewer are EATEN, if it is on STRIKE: see AskTest as well
        CrowRota y = Due.of("field 2 1;crop 0 0 9;crop 1 0 8;law eat date*(hour=0)*(ripe=8)*8;scare al 0 0 0 4 1;flap al 0 0;");
        Due.is("8 as it goes", y.ahead(2, 0), 8);
        Due.is("0 at least", y.costs(0, 2, 0), 0);
        y.strike(0, true);
        Due.is("0 on STRIKE", y.ahead(2, 0), 0);
        Due.is("0 at least", y.costs(0, 2, 0), 0);
    }

    private static void both() {
        CrowRota x = Due.of("field 3 1;crop 0 0 1;crop 1 0 2;crop 2 0 4;scare al 0 0 1 0 0;scare bo 2 0 1 0 0;scare ce 2 0 0 0 0;"
            + "flap al 0 11;flap bo 0 0;flap bo 11 11;flap ce 5 5;");
        int[] wrong = {-1, 3, 6, LEAST, MOST};
        for (int scare : wrong) {
            for (int what = 0; what < 2; what++) {
                Due.is("one " + scare, x.both(scare, 0, what), NONE);
                Due.is("other " + scare, x.both(0, scare, what), NONE);
                Due.is("both " + scare, x.both(scare, scare, what), NONE);
            }
        }
        int[] whats = {-1, 2, LEAST, MOST};
        for (int what : whats) {
            Due.is("what " + what, x.both(0, 1, what), NONE);
        }
        for (int i = 0; i < 3; i++) {
            Due.is("alike", x.both(i, i, 0), NONE);
            Due.is("alike", x.both(i, i, 1), NONE);
        }
        Due.is("first and last HOUR", x.both(0, 1, 0), 2049);
        Due.is("no HOUR", x.both(2, 1, 0), 0);
        Due.is("the one CELL", x.both(0, 1, 1), 2);
        Due.is("no CELL", x.both(0, 2, 1), 0);
        Due.is("the other one CELL", x.both(2, 1, 1), 4);
        x.strike(0, true);
        Due.is("on STRIKE", x.both(1, 0, 0) * 10 + x.both(1, 0, 1), 20492);
    }

    private static void expects() {
        CrowRota x = Due.of("field 6 5;crop 5 4 1;crop 0 0 0;scare al 5 4 0 0 0;flap al 0 0;flap al 11 11;crows 0;");
        int[] hours = {-1, 12, 32, LEAST, MOST};
        for (int hour : hours) {
            Due.is("hour " + hour, x.expects(hour), NONE);
        }
        int all = (1 << 30) - 2;
        int without = (1 << 29) - 2;
        for (int hour = 0; hour < 12; hour++) {
            Due.is("DAY 0: all with crop, hour " + hour, x.expects(hour), all);
        }
        x.go(1);
        Due.is("HOUR 0 comes on DAY 1", x.expects(0), without);
        Due.is("HOUR 11 comes today", x.expects(11), all);
        x.go(10);
        Due.is("HOUR 11 is now, on DAY 0", x.expects(11), all);
        x.go(1);
        Due.is("HOUR 11 comes on DAY 1", x.expects(11), without);
        Due.is("HOUR 0 is now", x.expects(0), without);
        Due.is("HOUR 1", x.expects(1), all);
        x.strike(0, true);
        x.go(1);
        Due.is("HOUR 0 comes on DAY 2", x.expects(0), all);
        Due.is("no crop", Due.of("field 1 1;crop 0 0 0;").expects(0), 0);
        Due.is("crop 1", Due.of("field 1 1;crop 0 0 1;").expects(11), 1);
    }

    private static void idle() {
        Due.is("nobody", new CrowRota().idle(), 0);
        String six = "field 6 1;scare a 0 0 0 0 0;scare b 1 0 0 0 0;scare c 2 0 0 0 0;scare d 3 0 0 0 0;scare e 4 0 0 0 0;"
            + "scare f 5 0 0 0 0;";
        Due.is("none of six", Due.of(six).idle(), 0);
        Due.is("all of six", Due.of(six + "law see 0;").idle(), 63);
        Due.is("the last one", Due.of(six + "crop 5 0 0;").idle(), 32);
        Due.is("the first one", Due.of(six + "crop 0 0 0;crop 5 0 1;").idle(), 1);
        CrowRota x = Due.of("field 2 1;crop 0 0 1;crop 1 0 0;scare al 1 0 1 0 0;scare bo 1 0 0 0 0;crows 1;");
        Due.is("bo SEES a CELL without CROP", x.idle(), 2);
        x.go(1);
        Due.is("no CROP is left", x.idle(), 3);
        CrowRota y = Due.of("field 1 1;scare al 0 0 0 0 0;law see hour;");
        Due.is("at HOUR 0", y.idle(), 1);
        y.go(1);
        Due.is("at HOUR 1", y.idle(), 0);
        y.strike(0, true);
        Due.is("FLAP or not", y.idle(), 0);
    }

    private static void lotWrong() {
        CrowRota x = Due.of("field 2 1;scare al 0 0 0 0 0;scare bo 1 0 0 0 0;");
        int[] wrong = {-1, 2, 6, 32, LEAST, MOST};
        for (int no : wrong) {
            for (int what = 0; what < 4; what++) {
                Due.is("one " + no, x.lot(no, 1, 0, 1, what), NONE);
                Due.is("other " + no, x.lot(0, no, 0, 1, what), NONE);
                Due.is("cell " + no, x.lot(0, 1, no, 1, what), NONE);
                Due.is("other cell " + no, x.lot(0, 1, 0, no, what), NONE);
            }
        }
        int[] whats = {-1, 4, LEAST, MOST};
        for (int what : whats) {
            Due.is("what " + what, x.lot(0, 1, 0, 1, what), NONE);
        }
        for (int what = 0; what < 4; what++) {
            Due.is("alike SCARES", x.lot(0, 0, 0, 1, what), NONE);
            Due.is("alike SCARES", x.lot(1, 1, 0, 1, what), NONE);
            Due.is("alike CELLS", x.lot(0, 1, 0, 0, what), NONE);
            Due.is("alike CELLS", x.lot(0, 1, 1, 1, what), NONE);
        }
    }

    private static void lot(String call, CrowRota x, int odds, int oddsOf, int mean, int meanOf) {
        int[] want = {odds, oddsOf, mean, meanOf};
        for (int what = 0; what < 4; what++) {
            Due.is(call + ", what " + what, x.lot(0, 1, 0, 1, what), want[what]);
        }
    }

    /** What al and bo SEE of CELLS 0 and 1 as bits, and CROP, all of which would be EATEN. */
    private static CrowRota game(int al, int bo, int crop, int otherCrop) {
        // al stands with SIGHT of what it SEES, bo with 4 and that
        return Due.of("field 2 1;crop 0 0 " + crop + ";crop 1 0 " + otherCrop + ";crows 99;scare al 0 0 " + al + " 0 0;"
            + "scare bo 0 0 " + (4 + bo) + " 0 0;law see (sight-sight/4*4)/(far+1)-(sight-sight/4*4)/(far+1)/2*2;");
    }

    private static void lotSure() {
        for (int al = 0; al < 4; al++) {
            CrowRota x = game(al, al, 1, 1);
            Due.is("al sees as told", x.sees(0, 0) + 2 * x.sees(0, 1), al);
            Due.is("bo sees as told", x.sees(1, 0) + 2 * x.sees(1, 1), al);
        }
        // EATEN: al 3 2, bo 3 2 and so on; which pairs do stands behind
        lot("al 3 2, bo 3 2: pairs al 0, bo 0", game(0, 0, 3, 2), 1, 1, 3, 1);
        lot("al 2 3, bo 2 3: pairs al 1, bo 1", game(0, 0, 2, 3), 1, 1, 3, 1);
        lot("al 3 3, bo 3 3: all pairs", game(0, 0, 3, 3), 1, 1, 3, 1);
        lot("al 0 0, bo 0 0: all pairs", game(3, 3, 3, 2), 1, 1, 0, 1);
        lot("al 0 0, bo 3 2: pairs al 0, al 1", game(3, 0, 3, 2), 1, 1, 0, 1);
        lot("al 3 2, bo 0 0: pairs bo 0, bo 1", game(0, 3, 3, 2), 0, 1, 0, 1);
        lot("al 2 0, bo 2 3: the pair al 0", game(2, 0, 2, 3), 1, 1, 2, 1);
        lot("al 0 2, bo 3 2: the pair al 1", game(1, 0, 3, 2), 1, 1, 2, 1);
        lot("al 2 3, bo 2 0: the pair bo 0", game(0, 2, 2, 3), 0, 1, 2, 1);
        lot("al 3 2, bo 0 2: the pair bo 1", game(0, 1, 3, 2), 0, 1, 2, 1);
        lot("al 3 0, bo 3 2: pairs al 0, bo 0", game(2, 0, 3, 2), 1, 1, 3, 1);
        lot("al 3 2, bo 3 0: pairs al 0, bo 0", game(0, 2, 3, 2), 1, 1, 3, 1);
        lot("al 0 3, bo 2 3: pairs al 1, bo 1", game(1, 0, 2, 3), 1, 1, 3, 1);
        lot("al 2 3, bo 0 3: pairs al 1, bo 1", game(0, 1, 2, 3), 1, 1, 3, 1);
        // where one of the odds would be 0, a sure pair does
        lot("al 0 2, bo 0 0: pairs al none, bo 0, bo 1", game(1, 2, 0, 2), 0, 1, 0, 1);
        lot("al 0 0, bo 2 0", game(1, 2, 2, 0), 1, 1, 0, 1);
        lot("al 0 0, bo 0 0, no CROP", game(1, 2, 0, 0), 1, 1, 0, 1);
    }

    /** "by odds so that neither gains by others ... in least terms" */
    private static void lotByOdds() {
        // al SEES CELL 0, bo CELL 1: al by what is EATEN in 0 of both
        lot("al 0 1, bo 1 0", game(1, 2, 1, 1), 1, 2, 1, 2);
        lot("al 0 2, bo 2 0", game(1, 2, 2, 2), 1, 2, 1, 1);
        lot("al 0 3, bo 2 0", game(1, 2, 2, 3), 2, 5, 6, 5);
        lot("al 0 2, bo 3 0", game(1, 2, 3, 2), 3, 5, 6, 5);
        lot("al 0 6, bo 4 0", game(1, 2, 4, 6), 2, 5, 12, 5);
        lot("al 0 6, bo 3 0", game(1, 2, 3, 6), 1, 3, 2, 1);
        lot("al 0 99, bo 99 0", game(1, 2, 99, 99), 1, 2, 99, 2);
        lot("al 0 98, bo 99 0", game(1, 2, 99, 98), 99, 197, 9702, 197);
        lot("al 0 1, bo 99 0", game(1, 2, 99, 1), 99, 100, 99, 100);
        // al SEES CELL 1, bo CELL 0
        lot("al 2 0, bo 0 3", game(2, 1, 2, 3), 3, 5, 6, 5);
        lot("al 6 0, bo 0 3", game(2, 1, 6, 3), 1, 3, 2, 1);
        lot("al 1 0, bo 0 99", game(2, 1, 1, 99), 99, 100, 99, 100);
        CrowRota x = game(1, 2, 2, 3);
        Due.is("the other SCARE first", x.lot(1, 0, 0, 1, 0) * 10 + x.lot(1, 0, 0, 1, 1), 35);
        Due.is("the other CELL first", x.lot(0, 1, 1, 0, 0) * 10 + x.lot(0, 1, 1, 0, 1), 25);
        Due.is("the mean stays", x.lot(1, 0, 1, 0, 2) * 10 + x.lot(1, 0, 1, 0, 3), 65);
    }

    /** "EATEN, if it isn't SEEN (E of eat)": put to 0 .. 99, CROWS without, no more than CROP. */
    private static void lotMeals() {
        String two = "field 2 1;crop 0 0 50;crop 1 0 60;scare al 0 0 0 0 0;scare bo 1 0 0 0 0;";
        lot("below 0", Due.of(two + "law eat 0-5;"), 1, 1, 0, 1);
        lot("above 99", Due.of(two + "law eat 9999;"), 5, 11, 300, 11);
        lot("CROWS without", Due.of(two + "crows 20;"), 1, 2, 10, 1);
        lot("CROWS with an ERROR", Due.of(two + "crows 20;law eat 1/0;"), 1, 2, 10, 1);
        lot("CROWS 0", Due.of(two + "crows 0;"), 1, 1, 0, 1);
        lot("just CROP", Due.of(two + "law eat ripe;"), 5, 11, 300, 11);
        CrowRota x = Due.of(two + "crows 20;flap al 0 11;");
        x.strike(0, true);
        x.strike(1, true);
        lot("on STRIKE or not", x, 1, 2, 10, 1);
        // "at this HOUR"
        CrowRota y = Due.of(two + "law see hour=1;law eat 10;");
        lot("nobody SEES at HOUR 0", y, 1, 1, 10, 1);
        y.go(1);
        lot("all SEE at HOUR 1", y, 1, 1, 0, 1);
    }

    private static void shareWrong() {
        CrowRota x = Due.of("scare al 0 0 0 0 0;scare bo 0 0 0 0 9;");
        int[] turnips = {-1, 10000, LEAST, MOST};
        for (int n : turnips) {
            Due.is("turnips " + n, x.share(n, 0), NONE);
        }
        int[] wrong = {-1, 2, 6, LEAST, MOST};
        for (int scare : wrong) {
            Due.is("scare " + scare, x.share(5, scare), NONE);
        }
        Due.is("0", x.share(0, 0) + x.share(0, 1), 0);
        Due.is("9999: al", x.share(9999, 0), 909);
        Due.is("9999: bo", x.share(9999, 1), 9090);
        Due.is("nobody is told", new CrowRota().share(0, 0), NONE);
    }

    private static int[] shares(CrowRota x, int turnips) {
        int[] all = new int[x.count(2)];
        for (int i = 0; i < all.length; i++) {
            all[i] = x.share(turnips, i);
        }
        return all;
    }

    private static void share(String call, int[] got, int... want) {
        for (int i = 0; i < want.length; i++) {
            Due.is(call + ", scare " + i, got[i], want[i]);
        }
    }

    /** "as many whole ones as that gives, cut; those left over one by one ... the first of several" */
    private static void share() {
        share("one alone", shares(Due.of("scare al 0 0 0 0 0;"), 9999), 9999);
        share("one alone, grade 9", shares(Due.of("scare al 0 0 0 0 9;"), 7), 7);
        String six = "scare a 0 0 0 0 0;scare b 0 0 0 0 0;scare c 0 0 0 0 0;scare d 0 0 0 0 0;scare e 0 0 0 0 0;scare f 0 0 0 0 0;";
        CrowRota x = Due.of(six);
        share("0 of six alike", shares(x, 0), 0, 0, 0, 0, 0, 0);
        share("1 of six alike", shares(x, 1), 1, 0, 0, 0, 0, 0);
        share("5 of six alike", shares(x, 5), 1, 1, 1, 1, 1, 0);
        share("6 of six alike", shares(x, 6), 1, 1, 1, 1, 1, 1);
        share("7 of six alike", shares(x, 7), 2, 1, 1, 1, 1, 1);
        share("9999 of six alike", shares(x, 9999), 1667, 1667, 1667, 1666, 1666, 1666);
        // grades and 1: 1, 2, 4 of 7
        CrowRota y = Due.of("scare a 0 0 0 0 0;scare b 0 0 0 0 1;scare c 0 0 0 0 3;");
        share("7: none left over", shares(y, 7), 1, 2, 4);
        share("1: parts 1 2 4", shares(y, 1), 0, 0, 1);
        share("2: parts 2 4 1", shares(y, 2), 0, 1, 1);
        share("3: parts 3 6 5", shares(y, 3), 0, 1, 2);
        share("4: parts 4 1 2", shares(y, 4), 1, 1, 2);
        share("5: parts 5 3 6", shares(y, 5), 1, 1, 3);
        share("6: parts 6 5 3", shares(y, 6), 1, 2, 3);
        share("14", shares(y, 14), 2, 4, 8);
        // 1 and 3 of 4: of 2 these are 2/4 and 6/4
        CrowRota z = Due.of("scare a 0 0 0 0 2;scare b 0 0 0 0 0;");
        share("alike parts: the first", shares(z, 2), 2, 0);
        CrowRota w = Due.of("scare a 0 0 0 0 0;scare b 0 0 0 0 2;");
        share("alike parts: the first", shares(w, 2), 1, 1);
        w.hat(1, 0);
        share("by hats as they are", shares(w, 3), 2, 1);
        w.strike(0, true);
        share("on STRIKE as well", shares(w, 3), 2, 1);
        w.undo();
        w.undo();
        share("by GRADE again", shares(w, 4), 1, 3);
        share("9999", shares(Due.of("scare a 0 0 0 0 9;scare b 0 0 0 0 9;scare c 0 0 0 0 8;"), 9999), 3448, 3448, 3103);
    }
}
