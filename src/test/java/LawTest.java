/** Promise 10: law, and with it how an E is worked out, its NAMES and its ERRORS; 9: sees by law. */
public final class LawTest {
    private static final long ERROR = Long.MIN_VALUE;

    public static void main(String[] args) {
        values();
        errors();
        names();
        none();
        seeing();
        Due.end();
    }

    private static void is(String e, long want) {
        CrowRota x = Due.of("law eat " + e + ";");
        Due.is(e, x.law(1, -5, 0), want);
    }

    private static void values() {
        is("9999", 9999);
        is("1+2*3", 7);
        is("(1+2)*3", 9);
        is("9-3-2", 4);
        is("9-(3-2)", 8);
        is("100/7/2", 7);
        is("100/(7/2)", 33);
        is("(0-7)/2", -3);
        is("7/(0-2)", -3);
        is("2*7/3*5", 20);
        is("1<2", 1);
        is("2<2", 0);
        is("2<=2", 1);
        is("3<=2", 0);
        is("2=2", 1);
        is("2=3", 0);
        is("2<>2", 0);
        is("2<>3", 1);
        is("2>=3", 0);
        is("3>=3", 1);
        is("3>3", 0);
        is("4>3", 1);
        is("1+1=2", 1);
        is("not 5", 0);
        is("not 0", 1);
        is("not not 5", 1);
        is("not 1=2", 1);
        is("5 and 7", 1);
        is("5 and 0", 0);
        is("0 or 9", 1);
        is("0 or 0", 0);
        is("1 or 1 and 0", 1);
        is("(1 or 1) and 0", 0);
        is("not 0 and 0", 0);
        is("not (0 and 0)", 1);
        is("(not 0)+(2<3)", 2);
        is("(1<2)<1", 0);
        is("0-1 or 0", 1);
    }

    private static void errors() {
        is("1/0", ERROR);
        is("1/(1-1)", ERROR);
        is("0 and 1/0", ERROR);
        is("1 or 1/0", ERROR);
        is("1/0 or 1", ERROR);
        is("not (1/0)", ERROR);
        is("0*(1/0)", ERROR);
        is("1000*1000*1000*1000", 1000000000000L);
        is("1000*1000*1000*1000+1", ERROR);
        is("1000*1000*1000*1000+1-1", ERROR);
        is("1000*1000*1000*1000-1", 999999999999L);
        is("0-1000*1000*1000*1000", -1000000000000L);
        is("0-1000*1000*1000*1000-1", ERROR);
        is("(1000*1000*1000*1000)*(1000*1000*1000*1000)", ERROR);
        is("(0-1000*1000*1000*1000)*(1000*1000*1000*1000)", ERROR);
        is("(1000*1000*1000*1000)*0", 0);
        is("0*(1000*1000*1000*1000)", 0);
        is("(1000*1000*1000*1000)*(0-1)", -1000000000000L);
        is("9999*9999*9999*9999", ERROR);
        is("(0-9999*9999*9999)*9999", ERROR);
        is("1000*1000*1000*1000/3", 333333333333L);
        is("(1000*1000*1000*1000)/(0-3)", -333333333333L);
    }

    private static void names() {
        String told = "field 4 3;crop 1 2 17;scare al 3 0 4 5 6;scare bo 0 1 7 8 9;wind 2;wind 3;";
        // one NAME a digit pair: sight far wind hour grade ripe date
        String all = "sight*1000*1000+far*1000*10+wind*1000+hour*100+grade*10+ripe+date*9999*9999";
        CrowRota x = Due.of(told + "law see " + all + ";law eat " + all + ";");
        CrowRota y = Due.of(told + "law pay " + all + ";");
        Due.is("see", x.law(0, 0, 9), 4 * 1000000 + 4 * 10000 + 2000 + 60 + 17);
        Due.is("see of bo", x.law(0, 1, 9), 7 * 1000000 + 2 * 10000 + 2000 + 90 + 17);
        Due.is("eat", x.law(1, 99, 9), 2000 + 17);
        Due.is("pay", y.law(2, 0, 99), 4 * 1000000 + 2000 + 60);
        x.hat(0, 1);
        x.hat(1, 0);
        y.hat(0, 2);
        Due.is("see with a hat", x.law(0, 0, 9), 4 * 1000000 + 4 * 10000 + 2000 + 10 + 17);
        Due.is("pay with a hat", y.law(2, 0, 99), 4 * 1000000 + 2000 + 20);
        x.go(12);
        x.go(5);
        y.go(17);
        long date = 9999L * 9999L;
        int ripe = x.cell(9, 0);
        Due.is("see a day on", x.law(0, 0, 9), 4 * 1000000 + 4 * 10000 + 3000 + 500 + 10 + ripe + date);
        Due.is("eat a day on", x.law(1, 0, 9), 3000 + 500 + ripe + date);
        Due.is("pay a day on", y.law(2, 0, 0), 4 * 1000000 + 3000 + 500 + 20 + date);
    }

    private static void none() {
        CrowRota x = Due.of("field 2 2;scare al 0 0 1 2 3;law see 1;law pay 2;");
        Due.is("see", x.law(0, 0, 3), 1);
        Due.is("pay, the cell isn't looked at", x.law(2, 0, 4), 2);
        Due.is("no law of eat", x.law(1, 0, 0), ERROR);
        Due.is("law(3)", x.law(3, 0, 0), ERROR);
        Due.is("law(-1)", x.law(-1, 0, 0), ERROR);
        Due.is("see of no scare", x.law(0, 1, 0), ERROR);
        Due.is("see of scare -1", x.law(0, -1, 0), ERROR);
        Due.is("see of no cell", x.law(0, 0, 4), ERROR);
        Due.is("see of cell -1", x.law(0, 0, -1), ERROR);
        Due.is("pay of no scare", x.law(2, 1, 0), ERROR);
        CrowRota y = Due.of("law eat 3;");
        Due.is("eat, the scare isn't looked at", y.law(1, 0, 19), 3);
        Due.is("eat of no cell", y.law(1, 0, 20), ERROR);
        Due.is("no law of see", y.law(0, 0, 0), ERROR);
        Due.is("no law behind an empty text", Due.text(y, "") == 0 ? y.law(1, 0, 0) : 0, ERROR);
    }

    private static void seeing() {
        // without a law FAR is SIGHT at most: a rhombus
        CrowRota x = Due.of("field 6 5;scare al 2 2 2 0 0;scare bo 0 0 9 0 0;scare ce 5 4 0 0 0;");
        for (int cell = 0; cell < 30; cell++) {
            int far = Math.abs(cell % 6 - 2) + Math.abs(cell / 6 - 2);
            Due.is("al sees " + cell, x.sees(0, cell), far <= 2 ? 1 : 0);
            Due.is("bo sees " + cell, x.sees(1, cell), cell == 29 ? 1 : 1);
            Due.is("ce sees " + cell, x.sees(2, cell), cell == 29 ? 1 : 0);
        }
        Due.is("no cell", x.sees(0, 30), CrowRota.NONE);
        Due.is("cell -1", x.sees(0, -1), CrowRota.NONE);
        Due.is("no scare", x.sees(3, 0), CrowRota.NONE);
        Due.is("scare -1", x.sees(-1, 0), CrowRota.NONE);
        // with an ERROR for some CELLS these go by FAR and SIGHT
        CrowRota y = Due.of("field 4 1;scare al 0 0 1 0 0;law see 1/(far-1)<0;");
        int[] seen = {1, 1, 0, 0};
        for (int cell = 0; cell < 4; cell++) {
            Due.is("with an error, cell " + cell, y.sees(0, cell), seen[cell]);
        }
        CrowRota z = Due.of("field 3 1;scare al 0 0 0 0 0;law see 0-far;");
        Due.is("below 0 is seen", z.sees(0, 1), 1);
        Due.is("0 isn't", z.sees(0, 0), 0);
        // by HOUR, WIND, CROP and GRADE
        CrowRota w = Due.of("field 2 1;crop 0 0 8;crop 1 0 3;scare al 0 0 0 0 2;wind 4;law see ripe>hour*4 and wind=4 or grade=9;");
        Due.is("hour 0", w.sees(0, 0) + 2 * w.sees(0, 1), 3);
        w.go(1);
        Due.is("eaten in cell 0", w.cell(0, 0), 3);
        Due.is("hour 1", w.sees(0, 0) + 2 * w.sees(0, 1), 0);
        w.hat(0, 9);
        Due.is("by hat", w.sees(0, 0) + 2 * w.sees(0, 1), 3);
    }
}
