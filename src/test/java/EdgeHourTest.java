/** ==== 2. and promises 6 to 10 and 14: each sentence that names an edge, on both sides of it. */
public final class EdgeHourTest {
    private static final int NONE = CrowRota.NONE;
    private static final int LEAST = Integer.MIN_VALUE;
    private static final int MOST = Integer.MAX_VALUE;
    private static final long ERROR = Long.MIN_VALUE;

    public static void main(String[] args) {
        cell();
        cellSeenTheDayAhead();
        cellSeenByAll();
        scare();
        wind();
        sees();
        law();
        far();
        farInARow();
        seesByLaw();
        names();
        namesByHats();
        namesOfTheLawAlone();
        truths();
        comparisons();
        cutTowardsZero();
        bound();
        bothSides();
        hours();
        rotaHours();
        mostHours();
        gusts();
        payPut();
        eatPut();
        noMoreThanCrop();
        comeToMost();
        scaredAnywhere();
        dontCome();
        kept();
        go();
        lastDay();
        Due.end();
    }

    private static void cell() {
        int[][] fields = {{1, 1}, {6, 1}, {1, 5}, {3, 2}, {6, 5}};
        for (int[] field : fields) {
            int cells = field[0] * field[1];
            CrowRota x = Due.right("field " + field[0] + " " + field[1] + ";crop 0 0 0;", 2);
            for (int what = 0; what < 3; what++) {
                Due.is("first cell", Due.cell(x, 0, what), 0);
                Due.is("last cell", Due.cell(x, cells - 1, what), cells > 1 && what == 0 ? 10 : 0);
                Due.is("cell behind it", Due.cell(x, cells, what), 1000);
                Due.is("cell -1", Due.cell(x, -1, what), 1000);
                Due.is("least cell", Due.cell(x, LEAST, what), 1000);
                Due.is("most cell", Due.cell(x, MOST, what), 1000);
                Due.is("32 above", Due.cell(x, 32, what), 1000);
            }
            int[] whats = {-1, 3, LEAST, MOST};
            for (int what : whats) {
                Due.is("what " + what + " of the first", Due.cell(x, 0, what), 2000);
                Due.is("what " + what + " of the last", Due.cell(x, cells - 1, what), 2000);
            }
        }
    }

    /** "1 whether it was SEEN at this HOUR of the DAY ahead (0 on DAY 0)" */
    private static void cellSeenTheDayAhead() {
        CrowRota x = Due.of("field 2 1;scare al 0 0 0 0 0;flap al 0 10;wind 0;wind 0;wind 0;");
        for (int hour = 0; hour < 12; hour++) {
            Due.is("day 0, hour " + hour, Due.cell(x, 0, 1), 0);
            Due.is("seen now, hour " + hour, Due.cell(x, 0, 2), hour < 11 ? 1 : 0);
            Due.is("not seen now", Due.cell(x, 1, 2), 0);
            x.go(1);
        }
        x.strike(0, true);
        for (int hour = 0; hour < 12; hour++) {
            Due.is("day 1, hour " + hour, Due.cell(x, 0, 1), hour < 11 ? 1 : 0);
            Due.is("day 1, the other cell", Due.cell(x, 1, 1), 0);
            Due.is("on strike now", Due.cell(x, 0, 2), 0);
            x.go(1);
        }
        for (int hour = 0; hour < 12; hour++) {
            Due.is("day 2, hour " + hour, Due.cell(x, 0, 1), 0);
            x.go(1);
        }
    }

    /** Each CELL, SEEN by one of several who FLAP. */
    private static void cellSeenByAll() {
        for (int cell = 0; cell < 30; cell++) {
            for (int other = 0; other < 30; other += 7) {
                CrowRota x = Due.of("field 6 5;scare al " + cell % 6 + " " + cell / 6 + " 0 0 0;scare bo " + other % 6 + " " + other / 6
                    + " 0 0 0;scare ce 3 3 9 0 0;flap al 0 0;flap bo 0 0;");
                for (int c = 0; c < 30; c++) {
                    Due.is(c + " SEEN now by those at " + cell + ", " + other, Due.cell(x, c, 2), c == cell || c == other ? 1 : 0);
                }
                x.go(12);
                x.flap(0, 0, false);
                for (int c = 0; c < 30; c++) {
                    Due.is(c + " SEEN the DAY ahead", Due.cell(x, c, 1), c == cell || c == other ? 1 : 0);
                    Due.is(c + " SEEN now by that at " + other, Due.cell(x, c, 2), c == other ? 1 : 0);
                }
            }
        }
        CrowRota none = Due.of("gust 0;");
        Due.is("a gust, but nobody is there", Due.cell(none, 0, 2), 0);
        none.go(12);
        Due.is("nothing was SEEN", Due.cell(none, 0, 1), 0);
        Due.is("nobody scares", none.count(11), 0);
    }

    private static void scare() {
        CrowRota none = new CrowRota();
        for (int what = 0; what < 8; what++) {
            Due.is("nobody is told", none.scare(0, what), NONE);
        }
        CrowRota x = Due.of("scare al 4 3 9 9 9;scare bo 0 0 0 0 0;flap al 0 11;flap bo 11 11;");
        int[] al = {19, 9, 9, 9, 4095, 0, 0, 1};
        int[] bo = {0, 0, 0, 0, 2048, 0, 0, 0};
        for (int what = 0; what < 8; what++) {
            Due.is("al " + what, x.scare(0, what), al[what]);
            Due.is("bo " + what, x.scare(1, what), bo[what]);
            int[] others = {-1, 2, LEAST, MOST};
            for (int other : others) {
                Due.is("scare " + other, x.scare(other, what), NONE);
            }
        }
        int[] whats = {-1, 8, LEAST, MOST};
        for (int what : whats) {
            Due.is("what " + what, x.scare(0, what), NONE);
        }
    }

    private static void wind() {
        CrowRota x = Due.of("wind 9;wind 8;");
        Due.is("day 0", x.wind(0), 9);
        Due.is("the last one told", x.wind(1), 8);
        Due.is("behind it", x.wind(2), 0);
        Due.is("day 999", x.wind(999), 0);
        Due.is("day 1000", x.wind(1000), NONE);
        Due.is("day -1", x.wind(-1), NONE);
        Due.is("least", x.wind(LEAST), NONE);
        Due.is("most", x.wind(MOST), NONE);
        Due.is("none told", new CrowRota().wind(0), 0);
    }

    private static void sees() {
        CrowRota x = Due.of("field 3 2;scare al 0 0 1 0 0;scare bo 2 1 0 0 0;");
        int[] al = {1, 1, 0, 1, 0, 0};
        int[] bo = {0, 0, 0, 0, 0, 1};
        for (int cell = 0; cell < 6; cell++) {
            Due.is("al sees " + cell, x.sees(0, cell), al[cell]);
            Due.is("bo sees " + cell, x.sees(1, cell), bo[cell]);
        }
        int[] scares = {-1, 2, LEAST, MOST};
        for (int scare : scares) {
            Due.is("scare " + scare, x.sees(scare, 0), NONE);
        }
        int[] cells = {-1, 6, 29, 32, LEAST, MOST};
        for (int cell : cells) {
            Due.is("cell " + cell, x.sees(0, cell), NONE);
        }
        x.strike(0, true);
        Due.is("FLAP or not", x.sees(0, 1), 1);
        Due.is("nobody is told", new CrowRota().sees(0, 0), NONE);
    }

    /** "the other one isn't looked at. Long.MIN_VALUE: an ERROR, no such law, no such ones." */
    private static void law() {
        CrowRota x = Due.of("field 3 2;scare al 0 0 1 0 0;scare bo 2 1 0 0 0;law see 11;law eat 12;law pay 13;");
        int[] no = {-1, LEAST, MOST, 6};
        Due.is("see", x.law(0, 1, 5), 11);
        Due.is("eat", x.law(1, 1, 5), 12);
        Due.is("pay", x.law(2, 1, 5), 13);
        for (int wrong : no) {
            Due.is("see of cell " + wrong, x.law(0, 0, wrong), ERROR);
            Due.is("see of scare " + wrong, x.law(0, wrong, 0), ERROR);
            Due.is("eat of cell " + wrong, x.law(1, 0, wrong), ERROR);
            Due.is("eat, scare " + wrong, x.law(1, wrong, 0), 12);
            Due.is("pay of scare " + wrong, x.law(2, wrong, 0), ERROR);
            Due.is("pay, cell " + wrong, x.law(2, 0, wrong), 13);
        }
        Due.is("see of scare 2", x.law(0, 2, 0), ERROR);
        Due.is("pay of scare 2", x.law(2, 2, 0), ERROR);
        int[] whats = {-1, 3, LEAST, MOST};
        for (int what : whats) {
            Due.is("law " + what, x.law(what, 0, 0), ERROR);
        }
        for (int told = 0; told < 3; told++) {
            String[] rules = {"see", "eat", "pay"};
            CrowRota y = Due.of("scare al 0 0 0 0 0;law " + rules[told] + " 5;");
            for (int what = 0; what < 3; what++) {
                Due.is("law " + what + " of " + rules[told], y.law(what, 0, 0), what == told ? 5 : ERROR);
            }
            CrowRota z = Due.of("scare al 0 0 0 0 0;law " + rules[told] + " 5/0;");
            Due.is("an ERROR of " + rules[told], z.law(told, 0, 0), ERROR);
        }
    }

    /** "FAR of two CELLS: x and y in sum"; "FAR is SIGHT at most" */
    private static void far() {
        for (int sight = 0; sight <= 9; sight++) {
            CrowRota x = Due.of("field 6 5;scare al 0 0 " + sight + " 0 0;scare bo 5 4 " + sight + " 0 0;scare ce 2 3 " + sight
                + " 0 0;");
            for (int cell = 0; cell < 30; cell++) {
                int a = cell % 6;
                int b = cell / 6;
                Due.is("al's sight " + sight + " of " + cell, x.sees(0, cell), a + b <= sight ? 1 : 0);
                Due.is("bo's sight " + sight + " of " + cell, x.sees(1, cell), 9 - a - b <= sight ? 1 : 0);
                Due.is("ce's sight " + sight + " of " + cell, x.sees(2, cell),
                    Math.abs(a - 2) + Math.abs(b - 3) <= sight ? 1 : 0);
            }
        }
    }

    /** FAR where the field is one CELL wide, or high. */
    private static void farInARow() {
        for (int sight = 0; sight <= 5; sight++) {
            CrowRota x = Due.of("field 1 5;scare al 0 0 " + sight + " 0 0;scare bo 0 3 " + sight + " 0 0;law eat 1;");
            CrowRota y = Due.of("field 6 1;scare al 0 0 " + sight + " 0 0;scare bo 4 0 " + sight + " 0 0;law eat 1;");
            for (int cell = 0; cell < 6; cell++) {
                if (cell < 5) {
                    Due.is("below one another, sight " + sight + " of " + cell, x.sees(0, cell), cell <= sight ? 1 : 0);
                    Due.is("below one another, sight " + sight + " of " + cell, x.sees(1, cell), Math.abs(cell - 3) <= sight ? 1 : 0);
                }
                Due.is("beside one another, sight " + sight + " of " + cell, y.sees(0, cell), cell <= sight ? 1 : 0);
                Due.is("beside one another, sight " + sight + " of " + cell, y.sees(1, cell), Math.abs(cell - 4) <= sight ? 1 : 0);
            }
        }
    }

    /** "E of see isn't 0 (without, with an ERROR: FAR is SIGHT at most)" */
    private static void seesByLaw() {
        String[] laws = {"0", "1", "2", "0-1", "1000*1000*1000*1000", "0-1000*1000*1000*1000", "1/2", "(0-1)/2"};
        int[] due = {0, 1, 1, 1, 1, 1, 0, 0};
        for (int k = 0; k < laws.length; k++) {
            CrowRota x = Due.of("field 3 1;scare al 0 0 1 0 0;law see " + laws[k] + ";");
            for (int cell = 0; cell < 3; cell++) {
                Due.is("see " + laws[k] + " of " + cell, x.sees(0, cell), due[k]);
            }
        }
        String[] errors = {"1/0", "1000*1000*1000*1000+1", "0-1000*1000*1000*1000-1", "0*(1/0)", "not(1/0)"};
        for (String law : errors) {
            CrowRota x = Due.of("field 3 1;scare al 0 0 1 0 0;law see " + law + ";");
            for (int cell = 0; cell < 3; cell++) {
                Due.is("see " + law + " of " + cell, x.sees(0, cell), cell <= 1 ? 1 : 0);
            }
        }
    }

    private static long eat(String e) {
        return Due.of("law eat " + e + ";").law(1, 0, 0);
    }

    /** The NAMES where they are least and most, and 0 where a law has none of them. */
    private static void names() {
        String told = "field 6 5;crop 0 0 0;crop 5 4 99;scare al 0 0 9 7 9;scare bo 0 0 0 7 0;";
        String[] name = {"sight", "far", "wind", "hour", "grade", "ripe", "date"};
        long[] al = {9, 9, 0, 0, 9, 99, 0};
        long[] bo = {0, 0, 0, 0, 0, 0, 0};
        for (int k = 0; k < 7; k++) {
            CrowRota x = Due.of(told + "law see " + name[k] + ";law eat " + name[k] + ";law pay " + name[k] + ";");
            Due.is(name[k] + " of al", x.law(0, 0, 29), al[k]);
            Due.is(name[k] + " of bo", x.law(0, 1, 0), bo[k]);
            Due.is(name[k] + " of eat", x.law(1, 0, 29), k == 5 ? 99 : 0);
            Due.is(name[k] + " of pay", x.law(2, 0, 29), k == 0 || k == 4 ? 9 : 0);
        }
        CrowRota w = Due.of("scare al 0 0 0 0 0;" + Due.times("wind 9;", 14) + "law eat wind*1000;law pay hour;law see date;");
        Due.is("wind of day 0", w.law(1, 0, 0), 9000);
        Due.is("date 0", w.law(0, 0, 0), 0);
        Due.is("hour 0", w.law(2, 0, 0), 0);
        w.go(11);
        Due.is("hour 11", w.law(2, 0, 0), 11);
        w.go(1);
        Due.is("hour 0 again", w.law(2, 0, 0), 0);
        Due.is("date 1", w.law(0, 0, 0), 1);
        w.go(99);
        w.go(57);
        Due.is("wind of day 14", w.law(1, 0, 0), 0);
        Due.is("date 14", w.law(0, 0, 0), 14);
        CrowRota v = Due.of(Due.times("wind 9;", 14) + "law eat wind;");
        v.go(99);
        v.go(99 - 31);
        Due.is("hour 11 of day 13", v.count(6) * 100 + v.count(7), 1113);
        Due.is("the last WIND told", v.law(1, 0, 0), 9);
        v.go(1);
        Due.is("0 behind it", v.law(1, 0, 0), 0);
    }

    /** "grade of the SCARE": as it is by hats. */
    private static void namesByHats() {
        CrowRota x = Due.of("field 2 1;scare al 0 0 0 0 3;flap al 0 11;law see grade;law eat grade;law pay grade;");
        int spent = 0;
        int[] grades = {3, 0, 9, 5};
        for (int grade : grades) {
            x.hat(0, grade);
            Due.is("see", x.law(0, 0, 1), grade);
            Due.is("eat", x.law(1, 0, 1), 0);
            Due.is("pay", x.law(2, 0, 1), grade);
            Due.is("sees", x.sees(0, 1), grade == 0 ? 0 : 1);
            x.go(1);
            spent += grade;
            Due.is("spent", x.count(10), spent);
        }
        Due.is("scared, but not with grade 0", x.count(11), 3);
    }

    /** "(of eat 0) ... (of eat, pay 0) ... (of pay 0)", whatever was asked ahead. */
    private static void namesOfTheLawAlone() {
        String all = "sight*1000+far*100+grade*10+ripe*1000*10";
        CrowRota x = Due.of("field 6 5;crop 5 4 7;scare al 0 0 3 0 5;law see " + all + ";law eat " + all + ";law pay " + all + ";");
        for (int k = 0; k < 2; k++) {
            Due.is("see", x.law(0, 0, 29), 70000 + 3000 + 900 + 50);
            Due.is("eat behind it", x.law(1, 0, 29), 70000);
            Due.is("see", x.law(0, 0, 29), 70000 + 3000 + 900 + 50);
            Due.is("pay behind it", x.law(2, 0, 29), 3000 + 50);
            Due.is("eat behind that", x.law(1, 0, 29), 70000);
            Due.is("pay behind that", x.law(2, 0, 29), 3000 + 50);
            Due.is("sees", x.sees(0, 29), 1);
            Due.is("eat behind it", x.law(1, 0, 0), 100000);
            Due.is("see of one more", x.oneMore(9, 1) > 0, true);
            Due.is("pay behind it", x.law(2, 0, 0), 3050);
        }
        // those who SEE stand elsewhere, when others eat and are paid
        CrowRota y = Due.of("field 6 1;crop 0 0 99;scare al 5 0 0 0 3;scare bo 5 0 0 0 4;flap al 0 0;flap bo 0 0;law eat far+sight+grade+1;"
            + "law pay far+ripe+grade;");
        y.go(1);
        Due.is("eaten", y.count(9), 1);
        Due.is("paid", y.count(10), 7);
    }

    /** "comparisons, and, or, not are 1 or 0 (what isn't 0 is as 1 ...)" */
    private static void truths() {
        String[] value = {"0", "1", "(0-1)", "7", "(0-7)", "(1000*1000*1000*1000)"};
        for (int a = 0; a < value.length; a++) {
            Due.is("not " + value[a], eat("not " + value[a]), a == 0 ? 1 : 0);
            Due.is("not not " + value[a], eat("not not " + value[a]), a == 0 ? 0 : 1);
            for (int b = 0; b < value.length; b++) {
                Due.is(value[a] + " and " + value[b], eat(value[a] + " and " + value[b]), a == 0 || b == 0 ? 0 : 1);
                Due.is(value[a] + " or " + value[b], eat(value[a] + " or " + value[b]), a == 0 && b == 0 ? 0 : 1);
            }
        }
    }

    private static void comparisons() {
        String[] sign = {"<", "<=", "=", "<>", ">=", ">"};
        int[] below = {1, 1, 0, 1, 0, 0};
        int[] alike = {0, 1, 1, 0, 1, 0};
        int[] above = {0, 0, 0, 1, 1, 1};
        for (int k = 0; k < 6; k++) {
            Due.is("8 9 by " + sign[k], eat("8" + sign[k] + "9"), below[k]);
            Due.is("9 9 by " + sign[k], eat("9" + sign[k] + "9"), alike[k]);
            Due.is("10 9 by " + sign[k], eat("10" + sign[k] + "9"), above[k]);
            Due.is("0-1 0 by " + sign[k], eat("0-1" + sign[k] + "0"), below[k]);
            Due.is("0 0-1 by " + sign[k], eat("0" + sign[k] + "0-1"), above[k]);
            Due.is("bounds by " + sign[k], eat("0-1000*1000*1000*1000" + sign[k] + "1000*1000*1000*1000"), below[k]);
        }
    }

    private static void cutTowardsZero() {
        int[][] pairs = {{7, 2}, {8, 2}, {1, 2}, {0, 2}, {2, 3}, {9999, 9999}, {9998, 9999}};
        for (int[] pair : pairs) {
            int a = pair[0];
            int b = pair[1];
            Due.is(a + "/" + b, eat(a + "/" + b), a / b);
            Due.is("-" + a + "/" + b, eat("(0-" + a + ")/" + b), -(a / b));
            Due.is(a + "/-" + b, eat(a + "/(0-" + b + ")"), -(a / b));
            Due.is("-" + a + "/-" + b, eat("(0-" + a + ")/(0-" + b + ")"), a / b);
        }
        Due.is("by 0", eat("1/0"), ERROR);
        Due.is("0 by 0", eat("0/0"), ERROR);
        Due.is("by what is 0", eat("5/(3-3)"), ERROR);
        Due.is("by what is cut to 0", eat("5/(1/2)"), ERROR);
        Due.is("by 1", eat("5/1"), 5);
    }

    /** "a value above 10 to the 12 or below 0 by more than that" */
    private static void bound() {
        String most = "1000*1000*1000*1000";
        long bound = 1000000000000L;
        Due.is("the bound", eat(most), bound);
        Due.is("by a sum", eat(most + "-1+1"), bound);
        Due.is("one more", eat(most + "+1"), ERROR);
        Due.is("below 0 by that", eat("0-" + most), -bound);
        Due.is("one less", eat("0-" + most + "-1"), ERROR);
        Due.is("by a difference", eat(most + "-(0-1)"), ERROR);
        Due.is("by a difference, the bound", eat(most + "-1-(0-1)"), bound);
        Due.is("also in between", eat("(" + most + "+1)*0"), ERROR);
        Due.is("also where it comes back", eat(most + "+1-1"), ERROR);
        // 1000000 * 1000000, and factors beside it
        Due.is("factors", eat("(1000*1000)*(1000*1000)"), bound);
        Due.is("a factor more by one", eat("(1000*1000)*(1000*1000+1)"), ERROR);
        Due.is("the other more by one", eat("(1000*1000+1)*(1000*1000)"), ERROR);
        Due.is("999999 * 1000001", eat("(1000*1000-1)*(1000*1000+1)"), bound - 1);
        Due.is("- factor", eat("(0-1000*1000)*(1000*1000)"), -bound);
        Due.is("- factor more by one", eat("(0-1000*1000)*(1000*1000+1)"), ERROR);
        Due.is("two - factors", eat("(0-1000*1000)*(0-1000*1000)"), bound);
        Due.is("two - factors, more by one", eat("(0-1000*1000-1)*(0-1000*1000)"), ERROR);
        Due.is("3 * 333333333333", eat("(" + most + "/3)*3"), bound - 1);
        Due.is("3 * 333333333334", eat("(" + most + "/3+1)*3"), ERROR);
        Due.is("bound * bound", eat("(" + most + ")*(" + most + ")"), ERROR);
        Due.is("bound * 1", eat("(" + most + ")*1"), bound);
        Due.is("bound * -1", eat("(" + most + ")*(0-1)"), -bound);
        Due.is("bound * 2", eat("(" + most + ")*2"), ERROR);
        Due.is("bound / 1", eat("(" + most + ")/1"), bound);
        Due.is("bound / -1", eat("(" + most + ")/(0-1)"), -bound);
        // 2^32 * 2^32 would be 0 in a long
        Due.is("2^64", eat("(256*256*256*256)*(256*256*256*256)"), ERROR);
        Due.is("2^64 in a sum", eat("(256*256*256*256)*(256*256*256*256)+1"), ERROR);
        Due.is("compared", eat(most + "=" + most), 1);
        Due.is("a sum of two", eat(most + "+" + most), ERROR);
        Due.is("a difference of two", eat(most + "-" + most), 0);
    }

    /** "both sides are worked out" */
    private static void bothSides() {
        String[] signs = {" or ", " and ", "<", "<=", "=", "<>", ">=", ">", "+", "-", "*", "/"};
        for (String sign : signs) {
            for (int a = 0; a < 2; a++) {
                Due.is(a + sign + "(1/0)", eat(a + sign + "(1/0)"), ERROR);
                Due.is("(1/0)" + sign + a, eat("(1/0)" + sign + a), ERROR);
            }
        }
    }

    private static void hours() {
        CrowRota x = new CrowRota();
        for (int day = 0; day < 3; day++) {
            for (int hour = 0; hour < 12; hour++) {
                Due.is("hour", x.count(6), hour);
                Due.is("day", x.count(7), day);
                Due.is("go(1)", x.go(1), (hour + 1) % 12);
            }
        }
    }

    /** Nobody FLAPS in the HOUR ahead of those of the ROTA, nor in that behind them. */
    private static void rotaHours() {
        int[][] rotas = {{0, 0}, {0, 11}, {11, 11}, {3, 5}};
        for (int[] rota : rotas) {
            CrowRota x = Due.of("field 1 1;law eat 0;scare al 0 0 0 1 0;flap al " + rota[0] + " " + rota[1] + ";");
            int flapped = 0;
            for (int hour = 0; hour < 12; hour++) {
                boolean is = hour >= rota[0] && hour <= rota[1];
                Due.is("hour " + hour, x.scare(0, 7), is ? 1 : 0);
                Due.is("flapped by " + hour, x.scare(0, 6), flapped);
                Due.is("spent by " + hour, x.count(10), flapped);
                flapped += is ? 1 : 0;
                x.go(1);
            }
            Due.is("spent", x.count(10), flapped);
            Due.is("scared", x.count(11), flapped);
            Due.is("a new DAY", x.scare(0, 6), 0);
        }
    }

    /** "FLAPPED for pay in fewer HOURS of this DAY than most" */
    private static void mostHours() {
        for (int most = 0; most <= 12; most++) {
            CrowRota x = Due.of("field 1 1;law eat 0;scare al 0 0 0 2 0;flap al 0 11;most " + most + ";");
            for (int day = 0; day < 2; day++) {
                for (int hour = 0; hour < 12; hour++) {
                    Due.is("most " + most + ", hour " + hour, x.scare(0, 7), hour < most ? 1 : 0);
                    Due.is("flapped", x.scare(0, 6), Math.min(hour, most));
                    x.go(1);
                }
                Due.is("spent", x.count(10), 2 * most * (day + 1));
            }
        }
        // each SCARE has its own HOURS
        CrowRota y = Due.of("scare al 0 0 0 1 0;scare bo 0 0 0 1 0;flap al 0 11;flap bo 1 11;most 1;");
        Due.is("al", y.scare(0, 7), 1);
        y.go(1);
        Due.is("al no more", y.scare(0, 7), 0);
        Due.is("bo", y.scare(1, 7), 1);
    }

    /** "else also if WIND is gust or more, for nothing (STRIKE or not)" */
    private static void gusts() {
        for (int gust = 0; gust <= 10; gust++) {
            for (int wind = 0; wind <= 9; wind++) {
                CrowRota x = Due.of("field 1 1;scare al 0 0 0 3 0;scare bo 0 0 0 4 0;flap bo 0 11;gust " + gust + ";wind " + wind
                    + ";most 1;");
                boolean is = wind >= gust;
                Due.is("wind " + wind + " of " + gust, x.scare(0, 7), is ? 2 : 0);
                Due.is("for pay, if on the ROTA", x.scare(1, 7), 1);
                x.strike(1, true);
                Due.is("on STRIKE", x.scare(1, 7), is ? 2 : 0);
                x.strike(1, false);
                x.go(1);
                Due.is("spent", x.count(10), 4);
                Due.is("as often as most", x.scare(1, 7), is ? 2 : 0);
                x.go(1);
                Due.is("for nothing", x.count(10), 4);
                Due.is("isn't counted", x.scare(0, 6) * 10 + x.scare(1, 6), 1);
                Due.is("scared", x.count(11), is ? 2 : 1);
            }
        }
        // the WIND is that of the DAY
        CrowRota x = Due.of("field 1 1;scare al 0 0 0 3 0;gust 1;wind 0;wind 1;law eat 0;");
        x.go(11);
        Due.is("hour 11 of day 0", x.scare(0, 7), 0);
        x.go(1);
        Due.is("hour 0 of day 1", x.scare(0, 7), 2);
        x.go(11);
        Due.is("hour 11 of day 1", x.scare(0, 7), 2);
        x.go(1);
        Due.is("hour 0 of day 2", x.scare(0, 7), 0);
    }

    /** "SPENT is more by E of pay (put to 0 .. 99; PAY without, with an ERROR)" */
    private static void payPut() {
        String[] laws = {"0", "1", "98", "99", "100", "9999", "1000*1000*1000*1000", "0-1", "0-1000*1000*1000*1000", "1/0",
            "1000*1000*1000*1000+1", "256*256*256*256", "0-256*256*128", "9999*9999*22"};
        int[] due = {0, 1, 98, 99, 99, 99, 99, 0, 0, 7, 7, 99, 0, 99};
        for (int k = 0; k < laws.length; k++) {
            CrowRota x = Due.of("scare al 0 0 0 7 0;flap al 0 0;law pay " + laws[k] + ";");
            Due.is("ahead, pay " + laws[k], x.ahead(1, 1), due[k]);
            x.go(1);
            Due.is("pay " + laws[k], x.count(10), due[k]);
            Due.is("counted all the same", x.scare(0, 6), 1);
        }
        for (int pay = 0; pay <= 9; pay++) {
            CrowRota x = Due.of("scare al 0 0 0 " + pay + " 0;flap al 0 1;");
            x.go(12);
            Due.is("PAY " + pay + " without", x.count(10), 2 * pay);
        }
    }

    /** "EATEN there is E of eat (put to 0 .. 99; CROWS without, with an ERROR ...)" */
    private static void eatPut() {
        String[] laws = {"0", "1", "98", "99", "100", "9999", "1000*1000*1000*1000", "0-1", "0-1000*1000*1000*1000", "1/0",
            "1000*1000*1000*1000+1", "256*256*256*256", "0-256*256*128", "9999*9999*22"};
        int[] due = {0, 1, 98, 99, 99, 99, 99, 0, 0, 7, 7, 99, 0, 99};
        for (int k = 0; k < laws.length; k++) {
            CrowRota x = Due.of("field 1 1;crop 0 0 99;crows 7;law eat " + laws[k] + ";");
            x.go(1);
            Due.is("eat " + laws[k], x.count(9), due[k]);
            Due.is("crop behind eat " + laws[k], x.cell(0, 0), 99 - due[k]);
        }
        int[] crows = {0, 1, 98, 99};
        for (int n : crows) {
            CrowRota x = Due.of("field 1 1;crop 0 0 99;crows " + n + ";");
            x.go(1);
            Due.is("CROWS " + n + " without", x.count(9), n);
        }
    }

    /** "no more than CROP" */
    private static void noMoreThanCrop() {
        for (int eat = 0; eat <= 5; eat++) {
            for (int told = 0; told < 2; told++) {
                CrowRota x = Due.of("field 1 1;crop 0 0 3;" + (told == 0 ? "crows " : "law eat ") + eat + ";");
                x.go(1);
                Due.is("of 3 they eat " + eat, x.count(9), Math.min(3, eat));
                Due.is("left", x.cell(0, 0), 3 - Math.min(3, eat));
                x.go(99);
                Due.is("never below 0", x.cell(0, 0), eat == 0 ? 3 : 0);
                Due.is("eaten in all", x.count(9), eat == 0 ? 0 : 3);
            }
        }
    }

    /** "they come to the one with most, the first of several" */
    private static void comeToMost() {
        CrowRota x = Due.of("field 3 2;crop 0 0 0;crop 1 0 8;crop 2 0 9;crop 0 1 9;crop 1 1 9;crop 2 1 1;crows 1;");
        int[][] due = {{0, 8, 8, 9, 9, 1}, {0, 8, 8, 8, 9, 1}, {0, 8, 8, 8, 8, 1}, {0, 7, 8, 8, 8, 1}, {0, 7, 7, 8, 8, 1}};
        for (int hour = 0; hour < due.length; hour++) {
            x.go(1);
            for (int cell = 0; cell < 6; cell++) {
                Due.is("cell " + cell + " behind hour " + hour, x.cell(cell, 0), due[hour][cell]);
            }
        }
        CrowRota y = Due.of("field 2 1;crop 0 0 0;crop 1 0 1;crows 1;");
        y.go(1);
        Due.is("CROP 1 is above 0", y.count(9), 1);
        Due.is("the last cell", y.cell(1, 0), 0);
        CrowRota z = Due.of("field 6 5;crop 5 4 11;crows 1;");
        z.go(1);
        Due.is("cell 29", z.cell(29, 0), 10);
        z.go(1);
        Due.is("all alike: the first", z.cell(0, 0), 9);
        // scared they don't come to another one, and those who stand elsewhere don't scare
        CrowRota w = Due.of("field 3 1;crop 0 0 9;crop 1 0 8;crop 2 0 1;scare al 0 0 0 0 0;scare bo 2 0 0 0 0;"
            + "flap al 0 0;flap bo 1 1;crows 1;");
        w.go(1);
        Due.is("scared", w.count(11), 1);
        Due.is("nothing is eaten", w.count(9), 0);
        w.go(1);
        Due.is("not scared by bo", w.count(11), 1);
        Due.is("eaten", w.cell(0, 0), 8);
    }

    /** "SEEN are all CELLS that a SCARE who FLAPS SEES ... If it is SEEN now, they are SCARED (once more)" */
    private static void scaredAnywhere() {
        for (int cell = 0; cell < 30; cell++) {
            String told = "field 6 5;crop " + cell % 6 + " " + cell / 6 + " 99;scare al " + cell % 6 + " " + cell / 6 + " 0 0 0;";
            String other = "scare bo " + (29 - cell) % 6 + " " + (29 - cell) / 6 + " 0 0 0;";
            CrowRota x = Due.of(told + other + "flap al 0 0;flap bo 0 1;");
            x.go(1);
            Due.is("scared at " + cell, x.count(11) * 100 + x.count(9), 100);
            x.go(1);
            Due.is("not scared by bo", x.count(11) * 100 + x.count(9), 105);
            Due.is("eaten there", x.cell(cell, 0), 94);
        }
        CrowRota x = Due.of("field 1 1;scare al 0 0 0 0 0;scare bo 0 0 0 0 0;flap al 0 0;flap bo 0 0;");
        x.go(1);
        Due.is("scared once by two", x.count(11), 1);
    }

    /** "(without any they don't come)": neither SCARED nor EATEN. */
    private static void dontCome() {
        CrowRota x = Due.of("field 2 1;crop 0 0 0;crop 1 0 0;scare al 0 0 9 0 0;flap al 0 11;");
        x.go(12);
        Due.is("no crop: not scared", x.count(11), 0);
        Due.is("no crop: nothing eaten", x.count(9), 0);
        CrowRota y = Due.of("field 2 1;scare al 0 0 9 0 0;flap al 0 11;");
        y.go(12);
        Due.is("day 0: scared", y.count(11), 12);
        y.go(12);
        Due.is("day 1: they expect somebody everywhere", y.count(11), 12);
        Due.is("day 1: nothing eaten", y.count(9), 0);
        CrowRota z = Due.of("field 2 1;crop 1 0 0;scare al 0 0 0 0 0;flap al 0 11;");
        z.go(24);
        Due.is("where they expect nobody there is no crop", z.count(11), 12);
        Due.is("nothing eaten", z.count(9), 0);
    }

    /** "What was SEEN at this HOUR is kept for the DAY behind": for that one alone, for that HOUR alone. */
    private static void kept() {
        CrowRota x = Due.of("field 1 1;crop 0 0 99;scare al 0 0 0 0 0;flap al 4 4;crows 1;");
        x.go(12);
        Due.is("day 0: scared once", x.count(11) * 100 + x.count(9), 111);
        x.strike(0, true);
        x.go(12);
        Due.is("day 1: at hour 4 they don't come", x.count(11) * 100 + x.count(9), 100 + 22);
        x.go(12);
        Due.is("day 2: at hour 4 they come again", x.count(11) * 100 + x.count(9), 100 + 34);
        // where they don't come it is SEEN all the same
        CrowRota y = Due.of("field 1 1;crop 0 0 99;scare al 0 0 0 0 0;flap al 0 0;crows 1;");
        y.go(99);
        Due.is("scared on day 0 alone", y.count(11), 1);
        Due.is("eaten at all other hours", y.count(9), 90);
    }

    private static void go() {
        CrowRota x = Due.of("field 1 1;crop 0 0 99;crows 1;scare al 0 0 0 0 0;");
        x.strike(0, true);
        int[] no = {-1, 100, LEAST, MOST, -12, 1200};
        for (int n : no) {
            Due.is("go(" + n + ")", x.go(n), NONE);
            Due.is("no HOUR went by", x.count(6) + x.count(7) + x.count(9), 0);
        }
        Due.is("go(0)", x.go(0), 0);
        Due.is("no HOUR went by", x.count(6) + x.count(7) + x.count(9), 0);
        Due.is("what can be undone stays", x.count(15), 1);
        Due.is("go(1)", x.go(1), 1);
        Due.is("one went by", x.count(9), 1);
        Due.is("nothing to undo", x.count(15), 0);
        Due.is("go(98)", x.go(98), 3);
        Due.is("98 more", x.count(9), 99);
        CrowRota y = Due.of("field 1 1;crop 0 0 99;crows 1;");
        Due.is("go(99)", y.go(99), 3);
        Due.is("99 went by", y.count(9), 99);
        Due.is("day", y.count(7), 8);
    }

    /** "DAY would be above 999" */
    private static void lastDay() {
        CrowRota x = Due.of("field 1 1;scare al 0 0 0 0 0;law eat date;law pay date;flap al 0 11;");
        for (int k = 0; k < 121; k++) {
            x.go(99);
        }
        Due.is("day 998", x.count(7) * 100 + x.count(6), 99803);
        Due.is("to day 1000", x.go(21), NONE);
        Due.is("go(99)", x.go(99), NONE);
        Due.is("still day 998", x.count(7) * 100 + x.count(6), 99803);
        Due.is("to the last HOUR ahead of it", x.go(8), 11);
        Due.is("day 998", x.count(7), 998);
        Due.is("to day 1000", x.go(13), NONE);
        Due.is("to day 999", x.go(1), 0);
        Due.is("day 999", x.count(7), 999);
        Due.is("date 999", x.law(1, 0, 0), 999);
        x.flap(0, 0, false);
        Due.is("a whole DAY", x.go(12), NONE);
        Due.is("what can be undone stays", x.undo(), 0);
        Due.is("all but one HOUR", x.go(11), 11);
        int spent = x.count(10);
        Due.is("the last HOUR", x.go(1), NONE);
        Due.is("none went by", x.count(10), spent);
        Due.is("go(0)", x.go(0), 11);
        Due.is("day 999", x.count(7), 999);
        Due.is("the last HOUR as it goes", x.ahead(1, 1), 99);
    }
}
