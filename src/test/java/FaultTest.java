/** Promises 3 and 4: which TEXTS are right, and the FAULTS of the others with their places. */
public final class FaultTest {
    private static final String SCARE = "scare a 0 0 1 2 3;";

    public static void main(String[] args) {
        right();
        misplaced();
        tooMuch();
        told();
        notAhead();
        laws();
        cuts();
        stays();
        Due.end();
    }

    private static void right() {
        Due.right("", 0);
        Due.right(" \n ", 0);
        Due.right("field 6 5;", 1);
        Due.right("field\n0006 05 ;\n", 1);
        Due.right("field6 1;most12;gust10;crows99;seed99999;", 5);
        Due.right("crop 4 3 99;crop 0 0 0;", 2);
        Due.right("scare zzzzzz 0 0 0 0 0;scare zzzzz 4 3 9 9 9;flap zzzzz 0 11;flap zzzzzz 11 11;", 4);
        Due.right("wind 0;wind 9;wind 3;", 3);
        Due.right(Due.times("wind 1;", 14), 14);
        Due.right("field 6 5;" + crops(16), 17);
        Due.right(scares(6) + Due.times("flap a 0 0;", 10), 16);
        Due.right("law pay 9999;law see not not 1;law eat((((((((1))))))));", 3);
        Due.right("law see 1<2 or 1<=2 and 1=2 or 1<>2 or 1>=2 or 1>2;", 1);
        Due.right("law see 1" + Due.times("+1", 31) + ";", 1);
        Due.right("most 0;gust 0;crows 0;seed 0;", 4);
    }

    private static String crops(int n) {
        StringBuilder all = new StringBuilder();
        for (int i = 0; i < n; i++) {
            all.append("crop ").append(i % 6).append(' ').append(i / 6).append(" 7;");
        }
        return all.toString();
    }

    private static String scares(int n) {
        StringBuilder all = new StringBuilder();
        for (int i = 0; i < n; i++) {
            all.append("scare ").append((char) ('a' + i)).append(" 0 0 1 1 1;");
        }
        return all.toString();
    }

    private static void misplaced() {
        Due.wrong(";", 1, 0);
        Due.wrong("most 1;;", 1, 7);
        Due.wrong("a", 1, 0);
        Due.wrong("5;", 1, 0);
        Due.wrong("see 1;", 1, 0);
        Due.wrong("most;", 1, 4);
        Due.wrong("most a;", 1, 5);
        Due.wrong("most 1 2;", 1, 7);
        Due.wrong("most 1", 1, 6);
        Due.wrong("most 1  \n", 1, 9);
        Due.wrong("most", 1, 4);
        Due.wrong("mostly 1;", 1, 0);
        Due.wrong("Most 1;", 1, 0);
        Due.wrong("most\t1;", 1, 4);
        Due.wrong("most 1\r;", 1, 6);
        Due.wrong("most 1;\u00e9", 1, 7);
        Due.wrong("most -1;", 1, 5);
        Due.wrong("scare abcdefg 0 0 1 2 3;", 1, 6);
        Due.wrong("scare see 0 0 1 2 3;", 1, 6);
        Due.wrong("scare 0 0 1 2 3;", 1, 6);
        Due.wrong("scare a 0 0 1 2;", 1, 15);
        Due.wrong(SCARE + "flap date 1 2;", 1, 23);
        Due.wrong(SCARE + "flap a 1;", 1, 26);
        Due.wrong("law 1;", 1, 4);
        Due.wrong("law field 1;", 1, 4);
        Due.wrong("law sees 1;", 1, 4);
        Due.wrong("field 5;", 1, 7);
        Due.wrong("\0", 1, 0);
    }

    private static void tooMuch() {
        Due.wrong("field 0 1;", 2, 6);
        Due.wrong("field 7 1;", 2, 6);
        Due.wrong("field 1 0;", 2, 8);
        Due.wrong("field 1 6;", 2, 8);
        Due.wrong("field 2 3;crop 2 0 1;", 2, 15);
        Due.wrong("field 2 3;crop 0 3 1;", 2, 17);
        Due.wrong("crop 0 0 100;", 2, 9);
        Due.wrong("scare a 5 0 1 2 3;", 2, 8);
        Due.wrong("scare a 0 4 1 2 3;", 2, 10);
        Due.wrong("scare a 0 0 10 2 3;", 2, 12);
        Due.wrong("scare a 0 0 1 10 3;", 2, 14);
        Due.wrong("scare a 0 0 1 2 10;", 2, 16);
        Due.wrong(SCARE + "flap a 12 12;", 2, 25);
        Due.wrong(SCARE + "flap a 0 12;", 2, 27);
        Due.wrong(SCARE + "flap a 5 4;", 2, 27);
        Due.wrong("most 13;", 2, 5);
        Due.wrong("crows 100;", 2, 6);
        Due.wrong("wind 10;", 2, 5);
        Due.wrong("gust 11;", 2, 5);
        Due.wrong("seed 100000;", 2, 5);
        Due.wrong("seed 99999999999999999999999999;", 2, 5);
        Due.wrong("field 6 5;" + crops(16) + "crop 0 4 1;", 2, 10 + 16 * 11);
        Due.wrong(scares(6) + "scare a", 2, 6 * 18);
        Due.wrong(SCARE + Due.times("flap a 0 0;", 10) + "flap b 0 0;", 2, 18 + 110);
        Due.wrong(Due.times("wind 1;", 14) + "wind 1;", 2, 98);
        Due.wrong("law see 10000;", 2, 8);
        Due.wrong("law see (((((((((1)))))))));", 2, 16);
        Due.wrong("law see ((((((((1)))))))) + (((((((((1", 2, 36);
        Due.wrong("law see 1" + Due.times("+1", 31) + "+1;", 2, 72);
        Due.wrong("law see 1" + Due.times("+1", 31) + ";law pay 1" + Due.times("+1", 31) + ";", 2, 81);
        Due.wrong("law see " + Due.times("not ", 65) + "1;", 2, 8 + 64 * 4);
        Due.wrong("law see 1" + Due.times("+1", 31) + "+", 1, 72);
        Due.wrong("law see not 1" + Due.times("+1", 31) + "+", 2, 75);
        Due.wrong("law see not 1" + Due.times("+1", 31) + "<=", 2, 75);
        Due.wrong("law see not 1" + Due.times("+1", 31) + " or", 2, 76);
        Due.wrong("law see 1" + Due.times("+1", 31) + " 1;", 1, 72);
    }

    private static void told() {
        Due.wrong("crop 1 2 1;crop 1 2 1;", 3, 18);
        Due.wrong("scare a 0 0 1 2 3;scare a 1 1 1 1 1;", 3, 24);
        Due.wrong("field 1 1;field 1 1;", 3, 10);
        Due.wrong("field 1 1;crop 0 0 1;field 1 1;", 3, 21);
        Due.wrong("most 1;most 1;", 3, 7);
        Due.wrong("crows 1;crows 1;", 3, 8);
        Due.wrong("gust 1;gust 1;", 3, 7);
        Due.wrong("seed 1;seed 1;", 3, 7);
        Due.wrong("law see 1;law see 1;", 3, 14);
        Due.wrong("law eat 1;law see 1;law eat 1;", 3, 24);
        Due.wrong("most 1;crop 0 0 1;most x", 3, 18);
    }

    private static void notAhead() {
        Due.wrong("flap a 0 0;", 4, 5);
        Due.wrong("flap a 0 0;" + SCARE, 4, 5);
        Due.wrong(SCARE + "flap b 0 0;", 4, 23);
        Due.wrong(SCARE + "flap aa 0 0;", 4, 23);
        Due.wrong("crop 0 0 1;field 5 4;", 4, 11);
        Due.wrong(SCARE + "field 5 4;", 4, 18);
        Due.wrong(SCARE + "flap abcdefg 0 0;", 1, 23);
    }

    private static void laws() {
        Due.wrong("law see ;", 1, 8);
        Due.wrong("law see 1 2;", 1, 10);
        Due.wrong("law see (1;", 1, 10);
        Due.wrong("law see 1);", 1, 9);
        Due.wrong("law see ();", 1, 9);
        Due.wrong("law see 1<2<3;", 1, 11);
        Due.wrong("law see 1+not 2;", 1, 10);
        Due.wrong("law see 1< =2;", 1, 11);
        Due.wrong("law see 1=<2;", 1, 10);
        Due.wrong("law see 1<>=2;", 1, 11);
        Due.wrong("law see 1>>2;", 1, 10);
        Due.wrong("law see -1;", 1, 8);
        Due.wrong("law see crop;", 1, 8);
        Due.wrong("law see a;", 1, 8);
        Due.wrong("law see 1 and;", 1, 13);
        Due.wrong("law see 1 or;", 1, 12);
        Due.wrong("law see not;", 1, 11);
        Due.wrong("law see 1<;", 1, 10);
        Due.wrong("law see 1+;", 1, 10);
        Due.wrong("law see 1-2-;", 1, 12);
        Due.wrong("law see 1*;", 1, 10);
        Due.wrong("law see 1/2/;", 1, 12);
        Due.wrong("law see (1+);", 1, 11);
        Due.wrong("law see (1 or 2 and);", 1, 19);
        Due.wrong("law see or 1;", 1, 8);
        Due.wrong("law see 1 or", 1, 12);
        Due.wrong("law see 1 % 2;", 1, 10);
        Due.wrong("law see (1", 1, 10);
    }

    /** What is behind the first n bytes of the TAPE isn't looked at. */
    private static void cut(String text, int n, int fault, int place) {
        CrowRota x = new CrowRota();
        Due.feed(x, text);
        Due.is("text " + text + " cut at " + n, x.text(n), fault == 0 ? 1 : CrowRota.NONE);
        Due.is("fault(0) of " + text + " cut at " + n, x.fault(0), fault);
        Due.is("fault(1) of " + text + " cut at " + n, x.fault(1), place);
    }

    private static void cuts() {
        cut("law see 1<=2;", 10, 1, 10);
        cut("law see 1<=2;", 11, 1, 11);
        cut("law see 1 or 2;", 11, 1, 10);
        cut("most 12;", 6, 1, 6);
        cut("most 133;", 7, 2, 5);
        cut("mostly;", 4, 1, 4);
        cut("scare abcdefg", 12, 1, 12);
        cut("most 1;;", 7, 0, CrowRota.NONE);
        cut("most 1;\0", 7, 0, CrowRota.NONE);
    }

    /** With a FAULT all stays but the TAPE and the FAULT; -2 leaves these too. */
    private static void stays() {
        CrowRota x = Due.of("field 3 2;scare bo 1 1 2 3 4;flap bo 0 5;most 3;wind 7;law pay 4+4;");
        x.go(13);
        x.flap(0, 7, true);
        x.note(3, 1, 4, true);
        x.keep();
        int[] ahead = new int[16];
        for (int what = 0; what < 16; what++) {
            ahead[what] = x.count(what);
        }
        Due.is("fault", Due.text(x, "field 1 1;scare al 0 0 1 1 1;wind 1;law pay 1;scare al"), CrowRota.NONE);
        for (int what = 0; what < 16; what++) {
            Due.is("count(" + what + ") behind a fault", x.count(what), ahead[what]);
        }
        Due.is("name stays", x.named(Due.letters("bo")), 0);
        Due.is("law stays", x.law(2, 0, 0), 8);
        Due.is("wind stays", x.wind(0), 7);
        Due.is("fault(0)", x.fault(0), 3);
        Due.is("text(21)", x.text(21), -2);
        Due.is("fault(0) stays behind -2", x.fault(0), 3);
        Due.is("fault(1) stays behind -2", x.fault(1), 52);
        Due.is("fault(2)", x.fault(2), CrowRota.NONE);
        Due.is("fault(-1)", x.fault(-1), CrowRota.NONE);
        Due.is("image stays", x.back(), 1);
        Due.feed(x, "most 3; zz");
        Due.is("first bytes only", x.text(7), 1);
        Due.is("the tape is empty then", x.text(1), -2);
        Due.is("fault(0) without", x.fault(0), 0);
        Due.is("fault(1) without", x.fault(1), CrowRota.NONE);
        Due.is("no image behind a text", x.back(), CrowRota.NONE);
        Due.is("new object fault(0)", new CrowRota().fault(0), 0);
        Due.is("new object fault(1)", new CrowRota().fault(1), CrowRota.NONE);
    }
}
