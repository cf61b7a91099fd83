/** Promises 1 to 5 and the TEXT of the Terms: each sentence that names an edge, on both sides of it. */
public final class EdgeTextTest {
    private static final int NONE = CrowRota.NONE;
    private static final String AL = "scare al 0 0 0 0 0;";
    private static final String[] LANGUAGE = {"field", "crop", "scare", "flap", "most", "crows", "wind", "gust", "seed",
        "law", "see", "eat", "pay", "or", "and", "not", "sight", "far", "hour", "grade", "ripe", "date"};

    public static void main(String[] args) {
        newObject();
        feed();
        feedOrder();
        text();
        textBeginsAnew();
        textsBehindOneAnother();
        fault();
        named();
        emptyText();
        fullText();
        blanks();
        betweenTokens();
        words();
        wordLength();
        digits();
        numberOfE();
        signs();
        fields();
        fieldAhead();
        cells();
        crops();
        scares();
        flaps();
        singles();
        winds();
        knots();
        open();
        lengthAsPlace();
        tooManyAtTheWord();
        toldAlready();
        laws();
        firstAlongTheText();
        Due.end();
    }

    private static void newObject() {
        CrowRota x = new CrowRota();
        Due.is("wide", x.count(0), 5);
        Due.is("high", x.count(1), 4);
        for (int what = 2; what < 16; what++) {
            Due.is("new count(" + what + ")", x.count(what), what == 8 ? 200 : 0);
        }
        Due.is("last cell", Due.cell(x, 19, 0), 10);
        Due.is("no cell behind it", Due.cell(x, 20, 0), 1000);
        Due.is("no fault", x.fault(0), 0);
        Due.is("no place", x.fault(1), NONE);
        Due.is("nothing is on the tape", x.text(1), -2);
        Due.is("all of nothing", x.text(0), 0);
    }

    private static final int BLANKS = 0x20202020;

    /** "NONE, and none come, if it would have more than 700." */
    private static void feed() {
        CrowRota x = new CrowRota();
        for (int k = 1; k <= 34; k++) {
            Due.is("feed " + k, x.feed(BLANKS, BLANKS, BLANKS, BLANKS, BLANKS), 20 * k);
        }
        Due.is("the 35th: 700", x.feed(BLANKS, BLANKS, BLANKS, BLANKS, BLANKS), 700);
        for (int k = 0; k < 3; k++) {
            Due.is("the 36th", x.feed(-1, -1, -1, -1, -1), NONE);
        }
        Due.is("no byte of it came", x.text(701), -2);
        Due.is("nor did one change", x.text(700), 0);
        Due.is("it is empty then", x.feed(BLANKS, BLANKS, BLANKS, BLANKS, BLANKS), 20);
    }

    /** "four of each number, the highest first": a byte that is no TOKEN tells its place. */
    private static void feedOrder() {
        for (int place = 0; place < 20; place++) {
            for (int sign = 127; sign < 256; sign += 64) {
                int[] five = {BLANKS, BLANKS, BLANKS, BLANKS, BLANKS};
                int shift = 24 - 8 * (place % 4);
                five[place / 4] = BLANKS & ~(255 << shift) | sign << shift;
                CrowRota x = new CrowRota();
                x.feed(five[0], five[1], five[2], five[3], five[4]);
                Due.is("byte " + sign + " at " + place, x.text(20), NONE);
                Due.is("place of " + sign + " at " + place, x.fault(1), place);
            }
        }
        CrowRota x = new CrowRota();
        Due.feed(x, Due.times(" ", 680));
        x.feed(BLANKS, BLANKS, BLANKS, BLANKS, 0x20202001);
        Due.is("the 700th byte", x.text(700), NONE);
        Due.is("its place", x.fault(1), 699);
    }

    /** "-2, and the TAPE stays: there are not so many, n is below 0." */
    private static void text() {
        CrowRota x = new CrowRota();
        Due.is("text(1) of nothing", x.text(1), -2);
        Due.feed(x, "most 3;");
        Due.is("text(21)", x.text(21), -2);
        Due.is("text(-1)", x.text(-1), -2);
        Due.is("text(least)", x.text(Integer.MIN_VALUE), -2);
        Due.is("text(most)", x.text(Integer.MAX_VALUE), -2);
        Due.is("it has 20 still", x.feed(BLANKS, BLANKS, BLANKS, BLANKS, BLANKS), 40);
        Due.is("text(41)", x.text(41), -2);
        Due.is("text(40)", x.text(40), 1);
        Due.is("it is empty then", x.text(1), -2);
        Due.is("empty, with a LINE's first bytes alone", Due.text(x, "mos"), NONE);
        Due.is("it is empty behind a FAULT, too", x.text(1), -2);
        Due.feed(x, "most 3;most 4;");
        Due.is("the first 7", x.text(7), 1);
        Due.is("the others are gone", x.text(1), -2);
        Due.feed(x, "most 3;");
        Due.is("the first 0: no LINE", x.text(0), 0);
        Due.is("the others are gone", x.text(1), -2);
    }

    /** "HOUR 0 of DAY 0, nobody on STRIKE, no NOTES, all KNOWN, no IMAGE, nothing to undo then" */
    private static void textBeginsAnew() {
        for (int n = 0; n < 2; n++) {
            CrowRota x = Due.right("field 2 2;scare al 0 0 0 5 5;flap al 0 11;wind 9;law pay 3;", 5);
            x.go(14);
            x.note(1, 0, 0, true);
            x.note(1, 0, 0, true);
            x.known(1);
            x.keep();
            x.strike(0, true);
            x.hat(0, 9);
            x.flap(0, 3, false);
            Due.is("text", Due.text(x, n == 0 ? "" : "field 2 2;scare al 0 0 0 5 5;"), n == 0 ? 0 : 2);
            int[] due = {n == 0 ? 5 : 2, n == 0 ? 4 : 2, n, 0, 0, 0, 0, 0, n == 0 ? 200 : 40, 0, 0, 0, 0, 0, 0, 0};
            for (int what = 0; what < 16; what++) {
                Due.is("count(" + what + ") of a TEXT behind another", x.count(what), due[what]);
            }
            Due.is("no law", x.law(2, 0, 0), Long.MIN_VALUE);
            Due.is("no wind", x.wind(0), 0);
            Due.is("no image", x.back(), NONE);
            Due.is("nothing to undo", x.undo(), NONE);
            Due.is("not seen", Due.cell(x, 0, 1), 0);
            Due.is("expected nowhere", x.expects(0), n == 0 ? (1 << 20) - 1 : 15);
            Due.is("al", x.named(Due.letters("al")), n - 1);
            int[] al = {0, 0, 5, 5, 0, 0, 0, 0};
            for (int what = 0; what < 8; what++) {
                Due.is("al " + what, x.scare(0, what), n == 0 ? NONE : al[what]);
            }
            for (int known = 1; known <= 3; known++) {
                x.note(1, 0, 0, true);
                Due.is("all known, also those to come", x.count(14), known);
            }
        }
    }

    private static long[] shown(CrowRota x) {
        long[] all = new long[400];
        int n = 0;
        for (int what = 0; what < 16; what++) {
            all[n++] = x.count(what);
        }
        for (int cell = 0; cell < 30; cell++) {
            for (int what = 0; what < 3; what++) {
                all[n++] = Due.cell(x, cell, what);
            }
        }
        for (int i = 0; i < 6; i++) {
            for (int what = 0; what < 8; what++) {
                all[n++] = x.scare(i, what);
            }
            all[n++] = x.law(0, i, 0);
            all[n++] = x.law(2, i, 0);
            all[n++] = x.sees(i, 1);
            all[n++] = x.fits(i);
            all[n++] = x.share(9, i);
        }
        for (int day = 0; day < 16; day++) {
            all[n++] = x.wind(day);
        }
        for (int what = 0; what < 6; what++) {
            all[n++] = x.tried(what, 0, 2);
        }
        long[] asked = {x.law(1, 0, 0), x.clash(0), x.allSeen(), x.oneMore(1, 0), x.oneMore(1, 1), x.ahead(2, 0), x.ahead(2, 1),
            x.ahead(2, 2), x.idle(), x.expects(0), x.expects(11), x.keeping(0, 1, 1), x.costs(0, 1, 0), x.chance(1, 2, 100),
            x.named(1 << 25), x.named(Due.letters("z")), x.lot(0, 1, 0, 1, 0), x.both(0, 1, 1), x.go(13), x.count(9), x.count(10),
            x.count(11)};
        for (long answer : asked) {
            all[n++] = answer;
        }
        return all;
    }

    /** "The TAPE's first n bytes are the TEXT": nothing of one ahead is left, nor of one ahead of that. */
    private static void textsBehindOneAnother() {
        String full = "field 6 1;most 0;crows 0;gust 0;seed 9;wind 9;wind 9;law see 1;law eat 0;law pay 1;crop 0 0 0;crop 1 0 99;"
            + scares(6) + "flap a 0 11;flap b 0 11;flap c 0 11;flap d 0 11;flap e 0 11;flap f 0 11;";
        String[] texts = {"", "gust 0;", "scare z 0 0 0 0 0;", "scare z 4 3 1 2 3;scare a 1 1 1 1 1;flap z 3 5;most 1;", "field 1 1;"};
        for (String text : texts) {
            for (int ahead = 1; ahead <= 3; ahead++) {
                CrowRota x = new CrowRota();
                for (int k = 0; k < 3; k++) {
                    Due.is("a TEXT ahead", Due.text(x, k < ahead ? full : "") >= 0, true);
                    if (k < ahead) {
                        x.hat(5, 9);
                        x.flap(5, 3, false);
                        x.go(5);
                    }
                }
                CrowRota y = new CrowRota();
                Due.is(text, Due.text(x, text), Due.text(y, text));
                long[] got = shown(x);
                long[] want = shown(y);
                for (int k = 0; k < want.length; k++) {
                    Due.is("answer " + k + " of " + text + " behind " + ahead, got[k], want[k]);
                }
            }
        }
    }

    /** "Of the latest text() that was not -2 ... its place (NONE without). NONE for another what." */
    private static void fault() {
        CrowRota x = new CrowRota();
        for (int turn = 0; turn < 2; turn++) {
            Due.is("text", Due.text(x, "   most 13;"), NONE);
            Due.is("text of too many", x.text(1), -2);
            Due.is("fault", x.fault(0), 2);
            Due.is("place", x.fault(1), 8);
            Due.is("fault(2)", x.fault(2), NONE);
            Due.is("fault(-1)", x.fault(-1), NONE);
            Due.is("fault(least)", x.fault(Integer.MIN_VALUE), NONE);
            Due.is("fault(most)", x.fault(Integer.MAX_VALUE), NONE);
            Due.is("text of -1", x.text(-1), -2);
            Due.is("fault still", x.fault(0), 2);
            Due.is("text without", Due.text(x, "most 12;"), 1);
            Due.is("no fault", x.fault(0), 0);
            Due.is("no place", x.fault(1), NONE);
            Due.is("fault(2) without", x.fault(2), NONE);
        }
        Due.wrong("!", 1, 0);
        CrowRota y = new CrowRota();
        Due.feed(y, Due.times(" ", 699) + "!");
        Due.is("text", y.text(700), NONE);
        Due.is("the last place that there may be", y.fault(1), 699);
        Due.feed(y, Due.times(" ", 694) + "most 1");
        Due.is("text", y.text(700), NONE);
        Due.is("the length of a full TAPE", y.fault(1), 700);
    }

    /** "5 bits each (a is 1; the first one highest of six, 0 behind the last one)" */
    private static void named() {
        CrowRota x = Due.right("scare a 0 0 0 0 0;scare z 0 0 0 0 0;scare aa 0 0 0 0 0;scare zzzzzz 0 0 0 0 0;"
            + "scare zzzzz 0 0 0 0 0;scare abcdef 0 0 0 0 0;", 6);
        Due.is("a", x.named(1 << 25), 0);
        Due.is("z", x.named(26 << 25), 1);
        Due.is("aa", x.named(1 << 25 | 1 << 20), 2);
        Due.is("zzzzzz", x.named(26 << 25 | 26 << 20 | 26 << 15 | 26 << 10 | 26 << 5 | 26), 3);
        Due.is("zzzzz", x.named(26 << 25 | 26 << 20 | 26 << 15 | 26 << 10 | 26 << 5), 4);
        Due.is("abcdef", x.named(1 << 25 | 2 << 20 | 3 << 15 | 4 << 10 | 5 << 5 | 6), 5);
        int[] none = {0, -1, 1, 26, 2 << 25, 27 << 25, 1 << 25 | 1, 1 << 20, 1 << 25 | 2 << 20, 1 << 30 | 1 << 25,
            1 << 31 | 1 << 25, 26 << 25 | 26 << 20 | 26 << 15 | 26 << 10, 1 << 25 | 2 << 20 | 3 << 15 | 4 << 10 | 5 << 5,
            1 << 25 | 2 << 20 | 3 << 15 | 4 << 10 | 5 << 5 | 7, Integer.MIN_VALUE, Integer.MAX_VALUE};
        for (int letters : none) {
            Due.is("named(" + letters + ")", x.named(letters), NONE);
        }
        Due.is("nobody is told", new CrowRota().named(1 << 25), NONE);
        Due.is("nor is one without letters", new CrowRota().named(0), NONE);
    }

    private static void emptyText() {
        Due.right("", 0);
        Due.right(" ", 0);
        Due.right("\n", 0);
        Due.right(Due.times("\n ", 350), 0);
        Due.wrong(";", 1, 0);
        Due.wrong("most 1;;", 1, 7);
    }

    private static String crops(int n) {
        StringBuilder all = new StringBuilder();
        for (int i = 0; i < n; i++) {
            all.append("crop ").append(i % 5).append(' ').append(i / 5).append(" 7;");
        }
        return all.toString();
    }

    private static String scares(int n) {
        StringBuilder all = new StringBuilder();
        for (int i = 0; i < n; i++) {
            all.append("scare ").append((char) ('a' + i)).append(" 0 0 1 1 1;");
        }
        return all.toString();
    }

    private static String flaps(int n) {
        return "scare al 0 0 0 0 0;" + Due.times("flap al 0 1;", n);
    }

    /** As much as there may be of all, in a TEXT as long as may be. */
    private static void fullText() {
        String text = "field 5 4;most 1;crows 2;gust 3;seed 4;law see 1;law eat 1;law pay 1;" + crops(16) + scares(6)
            + Due.times("flap f 0 1;", 10) + Due.times("wind 1;", 14);
        text = text.substring(0, text.length() - 1) + Due.times(" ", 700 - text.length()) + ";";
        Due.is("700 bytes", text.length(), 700);
        CrowRota x = Due.right(text, 8 + 16 + 6 + 10 + 14);
        Due.is("scares", x.count(2), 6);
        Due.is("flaps", x.count(3), 10);
        Due.is("winds", x.count(4), 14);
        Due.is("knots", x.count(5), 3);
    }

    /** "Blanks 10, 32": no other byte is one, and no other byte alone is a TEXT. */
    private static void blanks() {
        for (int sign = 0; sign < 256; sign++) {
            String alone = String.valueOf((char) sign);
            if (sign == 10 || sign == 32) {
                Due.right(alone + "most 3" + alone + ";" + alone, 1);
            } else {
                Due.wrong(alone, 1, 0);
                Due.wrong("most 3;" + alone, 1, 7);
            }
        }
    }

    private static void betweenTokens() {
        for (int sign = 0; sign < 256; sign++) {
            String text = "most" + (char) sign + "1;";
            if (sign == 10 || sign == 32 || sign == '0' || sign == '1') {
                Due.right(text, 1);
            } else if (sign >= '2' && sign <= '9') {
                Due.wrong(text, 2, 4);
            } else if (sign >= 'a' && sign <= 'z') {
                // one word then, which is none of the language
                Due.wrong(text, 1, 0);
            } else {
                Due.wrong(text, 1, 4);
            }
        }
        Due.right("most1;scare a0 0 0 0 0;flap a0 1;law see(1)and(2)or not far<sight+1;", 4);
        Due.wrong("mo st1;", 1, 0);
        Due.wrong("most1 2;", 1, 6);
    }

    /** "W: one of 1 .. 6 letters, none of those of the language" */
    private static void words() {
        for (String word : LANGUAGE) {
            Due.wrong("scare " + word + " 0 0 0 0 0;", 1, 6);
            Due.wrong("scare a 0 0 0 0 0;flap " + word + " 0 0;", 1, 23);
            String less = word.substring(0, word.length() - 1);
            if (!less.equals("see")) {
                Due.right("scare " + less + " 0 0 0 0 0;flap " + less + " 0 0;", 2);
            }
            Due.right("scare " + word + "a 0 0 0 0 0;flap " + word + "a 0 0;", 2);
        }
        String lines = " field crop scare flap most crows wind gust seed law ";
        for (String word : LANGUAGE) {
            // a LINE's word wants more, no other begins one
            boolean begins = lines.contains(" " + word + " ");
            Due.wrong(word, 1, begins ? word.length() : 0);
            Due.wrong(word + "z 1;", 1, 0);
        }
        Due.right("scare a 0 0 0 0 0;scare z 0 0 0 0 0;", 2);
        Due.wrong("scare ` 0 0 0 0 0;", 1, 6);
        Due.wrong("scare { 0 0 0 0 0;", 1, 6);
        Due.wrong("scare A 0 0 0 0 0;", 1, 6);
        Due.wrong("scare Z 0 0 0 0 0;", 1, 6);
        Due.wrong("scare 0 0 0 0 0;", 1, 6);
    }

    /** "a word of more than 6 letters that is none of the language, too" */
    private static void wordLength() {
        Due.right("scare abcdef 0 0 0 0 0;flap abcdef 0 0;", 2);
        Due.wrong("scare abcdefg 0 0 0 0 0;", 1, 6);
        Due.wrong("scare abcdef 0 0 0 0 0;flap abcdefg 0 0;", 1, 28);
        Due.wrong("scare abcdef 0 0 0 0 0;scare abcdefg 0 0 0 0 0;", 1, 29);
        Due.wrong("scare " + Due.times("z", 600) + " 0 0 0 0 0;", 1, 6);
        Due.wrong("law see sightsee;", 1, 8);
        Due.wrong(Due.times("a", 700), 1, 0);
    }

    /** "N: digits" */
    private static void digits() {
        for (int n = 0; n <= 12; n++) {
            CrowRota x = Due.right("scare al 0 0 0 0 0;flap al 0 11;most " + n + ";", 3);
            x.go(11);
            Due.is("most is " + n, x.scare(0, 6), n < 11 ? n : 11);
        }
        Due.right("most 00000000000000000012;", 1);
        Due.right("most " + Due.times("0", 694) + ";", 1);
        Due.right("most " + Due.times("0", 692) + "12;", 1);
        Due.wrong("most " + Due.times("0", 692) + "13;", 2, 5);
        Due.wrong("most " + Due.times("9", 694) + ";", 2, 5);
        // numbers that a short one could be taken for, if digits fell off
        Due.wrong("most 4294967296;", 2, 5);
        Due.wrong("most 4294967297;", 2, 5);
        Due.wrong("most 18446744073709551617;", 2, 5);
        Due.wrong("most 2147483648;", 2, 5);
        Due.wrong("most 100000000000000000000000000000000;", 2, 5);
        Due.wrong("most +1;", 1, 5);
        Due.wrong("most -1;", 1, 5);
        Due.wrong("most 0x1;", 1, 6);
        Due.wrong("most 1.0;", 1, 6);
    }

    private static void numberOfE() {
        Due.is("0", Due.right("law eat 0;", 1).law(1, 0, 0), 0);
        Due.is("9999", Due.right("law eat 9999;", 1).law(1, 0, 0), 9999);
        Due.is("009999", Due.right("law eat 009999;", 1).law(1, 0, 0), 9999);
        Due.wrong("law eat 10000;", 2, 8);
        Due.wrong("law eat 1+010000;", 2, 10);
        Due.wrong("law eat 4294967296;", 2, 8);
    }

    /** "A = (or > behind <) right behind < or > belongs to it." */
    private static void signs() {
        String[] pairs = {"<=", "<>", ">="};
        for (String pair : pairs) {
            CrowRota x = Due.right("law eat 2" + pair + "3;", 1);
            Due.is("2" + pair + "3", x.law(1, 0, 0), pair.equals(">=") ? 0 : 1);
            Due.is("knots of 2" + pair + "3", x.count(5), 3);
            Due.wrong("law eat 2" + pair.charAt(0) + " " + pair.charAt(1) + "3;", 1, 11);
            Due.wrong("law eat 2" + pair.charAt(0) + "\n" + pair.charAt(1) + "3;", 1, 11);
            Due.wrong("law eat 2" + pair, 1, 11);
            Due.wrong("law eat 2" + pair + "=3;", 1, 11);
            Due.wrong("law eat 2" + pair + ">3;", 1, 11);
        }
        Due.wrong("law eat 2><3;", 1, 10);
        Due.wrong("law eat 2=<3;", 1, 10);
        Due.wrong("law eat 2=>3;", 1, 10);
        Due.wrong("law eat 2==3;", 1, 10);
        Due.wrong("law eat 2<<3;", 1, 10);
        Due.wrong("law eat 2>>3;", 1, 10);
        // at the end of the bytes that are read nothing is behind it
        CrowRota x = new CrowRota();
        Due.feed(x, "law eat 2<=3;");
        Due.is("cut", x.text(10), NONE);
        Due.is("the length", x.fault(1), 10);
    }

    /** "WIDE 1 .. 6, HIGH 1 .. 5 (5 and 4 without)" */
    private static void fields() {
        for (int wide = 1; wide <= 6; wide++) {
            for (int high = 1; high <= 5; high++) {
                CrowRota x = Due.right("field " + wide + " " + high + ";", 1);
                Due.is("wide", x.count(0), wide);
                Due.is("high", x.count(1), high);
                Due.is("crop", x.count(8), 10 * wide * high);
                Due.is("last cell", Due.cell(x, wide * high - 1, 0), 10);
                Due.is("behind it", Due.cell(x, wide * high, 0), 1000);
            }
        }
        Due.wrong("field 0 1;", 2, 6);
        Due.wrong("field 7 1;", 2, 6);
        Due.wrong("field 1 0;", 2, 8);
        Due.wrong("field 1 6;", 2, 8);
        CrowRota x = Due.right("most 3;", 1);
        Due.is("wide without", x.count(0), 5);
        Due.is("high without", x.count(1), 4);
        Due.is("with a field, then without", Due.text(x, "field 6 1;") + 10 * Due.text(x, "most 1;"), 11);
        Due.is("wide without", x.count(0), 5);
        Due.is("high without", x.count(1), 4);
    }

    /** "ahead of all lines with CELLS" */
    private static void fieldAhead() {
        String[] without = {"most 1;", "crows 1;", "wind 1;", "gust 1;", "seed 1;", "law see 1;"};
        String all = "";
        for (String line : without) {
            Due.right(line + "field 6 5;", 2);
            all += line;
        }
        Due.right(all + "field 6 5;crop 5 4 1;scare al 5 4 0 0 0;", 9);
        Due.wrong("crop 0 0 1;field 6 5;", 4, 11);
        Due.wrong(AL + "field 6 5;", 4, 19);
        Due.wrong("crop 0 0 1;" + all + "field 6 5;", 4, 11 + all.length());
        // of one place the least: told already is 3
        Due.wrong("field 6 5;field 6 5;", 3, 10);
        Due.wrong("field 6 5;crop 0 0 1;field 6 5;", 3, 21);
    }

    /** "CELLS are x, y below these, numbered y times WIDE and x" */
    private static void cells() {
        for (int wide = 1; wide <= 6; wide++) {
            for (int high = 1; high <= 5; high++) {
                String field = wide == 5 && high == 4 ? "" : "field " + wide + " " + high + ";";
                int at = field.length();
                int lines = field.isEmpty() ? 1 : 2;
                for (int cell = 0; cell < wide * high; cell++) {
                    String place = cell % wide + " " + cell / wide;
                    CrowRota x = Due.right(field + "crop " + place + " 3;scare al " + place + " 0 0 0;", lines + 1);
                    Due.is("cell of crop " + place + " of " + field, x.cell(cell, 0), 3);
                    Due.is("all other crop", x.count(8), 10 * wide * high - 7);
                    Due.is("cell of al " + place + " of " + field, x.scare(0, 0), cell);
                }
                Due.wrong(field + "crop " + wide + " 0 1;", 2, at + 5);
                Due.wrong(field + "crop 0 " + high + " 1;", 2, at + 7);
                Due.wrong(field + "scare al " + wide + " 0 0 0 0;", 2, at + 9);
                Due.wrong(field + "scare al 0 " + high + " 0 0 0;", 2, at + 11);
            }
        }
        Due.wrong("field 2 2;crop 0 100000000000000000000 1;", 2, 17);
    }

    /** "crop: of a CELL 0 .. 99 (each once, at most 16 lines; 10 without)" */
    private static void crops() {
        CrowRota x = Due.right("crop 1 0 0;crop 2 0 1;crop 3 0 98;crop 4 0 99;", 4);
        int[] due = {10, 0, 1, 98, 99, 10};
        for (int cell = 0; cell < due.length; cell++) {
            Due.is("crop of " + cell, x.cell(cell, 0), due[cell]);
        }
        Due.wrong("crop 0 0 100;", 2, 9);
        Due.wrong("crop 1 2 5;crop 1 2 5;", 3, 18);
        Due.wrong("crop 0 0 5;crop 4 3 5;crop 4 3 6;", 3, 29);
        Due.wrong("field 6 5;crop 5 4 0;crop 5 4 0;", 3, 28);
        Due.wrong("crop 0 0 5;crop 1 0 5;crop 0 0 5;", 3, 29);
        for (int k = 0; k < 16; k++) {
            String again = crops(16).substring(11 * k, 11 * k + 11);
            Due.wrong(crops(16).substring(0, 11 * k) + crops(16).substring(11 * k + 11) + again + again, 2, 11 * 16);
            if (k < 15) {
                Due.wrong(crops(15) + again, 3, 11 * 15 + 7);
            }
        }
        Due.right("crop 1 2 5;crop 2 1 5;", 2);
        CrowRota y = Due.right(crops(16), 16);
        Due.is("16 of 7, 4 of 10", y.count(8), 16 * 7 + 40);
        Due.wrong(crops(17), 2, 16 * 11);
        Due.wrong(crops(16) + "crop", 2, 16 * 11);
        Due.is("told and told anew", Due.text(y, crops(16)), 16);
    }

    /** "SCARES, at most 6: a CELL (several may share one), SIGHT 0 .. 9, PAY 0 .. 9, GRADE 0 .. 9" */
    private static void scares() {
        for (int n = 0; n <= 6; n++) {
            CrowRota x = Due.right(scares(n), n);
            Due.is("how many", x.count(2), n);
            Due.is("the last one", x.scare(n - 1, 0), n == 0 ? NONE : 0);
            Due.is("none behind it", x.scare(n, 0), NONE);
        }
        Due.wrong(scares(7), 2, 6 * 18);
        Due.wrong(scares(6) + "scare", 2, 6 * 18);
        for (int part = 0; part < 3; part++) {
            for (int n = 0; n <= 10; n++) {
                StringBuilder line = new StringBuilder("scare al 0 0");
                for (int k = 0; k < 3; k++) {
                    line.append(' ').append(k == part ? n : 4);
                }
                line.append(';');
                if (n < 10) {
                    Due.is(line.toString(), Due.right(line.toString(), 1).scare(0, 1 + part), n);
                } else {
                    Due.wrong(line.toString(), 2, 13 + 2 * part);
                }
            }
        }
        Due.wrong(AL + "scare al 1 1 0 0 0;", 3, 25);
        Due.right(AL + "scare ala 0 0 0 0 0;scare a 0 0 0 0 0;", 3);
        CrowRota x = Due.right(scares(6), 6);
        Due.is("told and told anew", Due.text(x, scares(6)), 6);
    }

    /** "FLAPS, at most 10: a SCARE is on the ROTA from an HOUR 0 .. 11 to one (not below it)" */
    private static void flaps() {
        for (int from = 0; from <= 12; from++) {
            for (int to = 0; to <= 12; to++) {
                String text = AL + "scare bo 0 0 0 0 0;flap al " + from + " " + to + ";";
                if (from == 12) {
                    Due.wrong(text, 2, 46);
                } else if (to == 12 || to < from) {
                    Due.wrong(text, 2, from < 10 ? 48 : 49);
                } else {
                    CrowRota x = Due.right(text, 3);
                    int bits = 0;
                    for (int hour = from; hour <= to; hour++) {
                        bits |= 1 << hour;
                    }
                    Due.is("rota of " + text, x.scare(0, 4), bits);
                    Due.is("the other's", x.scare(1, 4), 0);
                }
            }
        }
        CrowRota y = Due.right(AL + "flap al 0 0;flap al 11 11;flap al 5 7;flap al 6 8;", 5);
        Due.is("several", y.scare(0, 4), 1 | 2048 | 480);
        Due.is("flaps told", y.count(3), 4);
        Due.is("ten", Due.right(flaps(10), 11).count(3), 10);
        Due.wrong(flaps(11), 2, 19 + 120);
        Due.wrong(flaps(10) + "flap", 2, 19 + 120);
        Due.wrong("flap al 0 0;" + AL, 4, 5);
        Due.wrong("flap", 1, 4);
        Due.is("told and told anew", Due.text(y, flaps(10)), 11);
    }

    /** "most: 0 .. 12 (12 without). crows: 0 .. 99 (5). gust: 0 .. 10 (10). seed: 0 .. 99999 (0)." */
    private static void singles() {
        String[] words = {"most", "crows", "gust", "seed"};
        int[] highest = {12, 99, 10, 99999};
        for (int k = 0; k < 4; k++) {
            int place = words[k].length() + 1;
            Due.right(words[k] + " 0;", 1);
            Due.right(words[k] + " " + highest[k] + ";", 1);
            Due.wrong(words[k] + " " + (highest[k] + 1) + ";", 2, place);
            Due.wrong(words[k] + " ;", 1, place);
            Due.wrong(words[k], 1, place - 1);
            Due.wrong(words[k] + " 0 0;", 1, place + 2);
            Due.wrong(words[k] + " 0;" + words[k] + " 0;", 3, place + 2);
        }
        for (int crows = 0; crows <= 99; crows += 33) {
            CrowRota x = Due.right("crop 0 0 99;crows " + crows + ";", 2);
            x.go(1);
            Due.is("crows " + crows, x.count(9), crows);
        }
        CrowRota x = new CrowRota();
        x.go(1);
        Due.is("crows without", x.count(9), 5);
        Due.is("all told", Due.text(x, "crows 1;most 0;gust 0;"), 3);
        Due.is("then without", Due.text(x, AL + "flap al 0 11;scare bo 0 0 0 0 0;wind 9;law see 0;"), 5);
        Due.is("gust without: no WIND is one", x.scare(1, 7), 0);
        Due.is("most without: no CLASH", x.clash(0), -2);
        x.go(11);
        Due.is("most without: a twelfth HOUR for pay", x.scare(0, 7), 1);
        Due.is("crows without", x.count(9), 55);
    }

    /** "WINDS, at most 14, one DAY behind another: 0 .. 9 (0 behind those told)" */
    private static void winds() {
        StringBuilder text = new StringBuilder();
        for (int day = 0; day < 14; day++) {
            CrowRota x = Due.right(text.toString(), day);
            Due.is("winds told", x.count(4), day);
            Due.is("the last one", day == 0 ? 3 : x.wind(day - 1), (day + 2) % 10 + (day == 0 ? 1 : 0));
            Due.is("0 behind it", x.wind(day), 0);
            text.append("wind ").append((day + 3) % 10).append(';');
        }
        CrowRota x = Due.right(text.toString(), 14);
        for (int day = 0; day < 14; day++) {
            Due.is("wind of " + day, x.wind(day), (day + 3) % 10);
        }
        Due.is("wind of 14", x.wind(14), 0);
        Due.is("wind of 15", x.wind(15), 0);
        Due.wrong(text + "wind 0;", 2, 98);
        Due.wrong(text + "wind", 2, 98);
        Due.right("wind 0;wind 9;", 2);
        Due.wrong("wind 10;", 2, 5);
        Due.is("told and told anew", Due.text(x, text.toString()), 14);
    }

    /** "a 65th KNOT of all E (N, NAMES, signs, not, and, or: one each)" */
    private static void knots() {
        String[] one = {"1", "date", "not 1", "1+1", "1-1", "1*1", "1/1", "1<1", "1<=1", "1=1", "1<>1", "1>=1", "1>1",
            "1 and 1", "1 or 1", "(1)", "((((((((1))))))))"};
        for (int k = 0; k < one.length; k++) {
            int knots = k < 2 || k > 14 ? 1 : k == 2 ? 2 : 3;
            Due.is("knots of " + one[k], Due.right("law see " + one[k] + ";", 1).count(5), knots);
        }
        // 63 are there: what comes then is the 64th, which is taken, and the 65th, which isn't
        String most = "law see 1" + Due.times("+1", 31) + ";law eat ";
        int at = most.length();
        Due.is("64", Due.right(most + "1;", 2).count(5), 64);
        Due.is("64", Due.right(most + "ripe;", 2).count(5), 64);
        Due.wrong(most + "not 1;", 2, at + 4);
        Due.wrong(most + "not date;", 2, at + 4);
        Due.wrong(most + "not not 1;", 2, at + 4);
        String[] signs = {"+", "-", "*", "/", "<", "<=", "=", "<>", ">=", ">", "and ", "or "};
        for (String sign : signs) {
            Due.wrong(most + "1 " + sign + "1;", 2, at + 2);
        }
        Due.is("brackets are none", Due.right(most + "(((1)));", 2).count(5), 64);
        Due.is("64 are full, a law without any can't be", Due.right(most + "1;", 2).count(5), 64);
        Due.wrong(most + "1;law pay 1;", 2, at + 10);
        Due.wrong(most + "1;law pay (1);", 2, at + 11);
        Due.wrong(most + "1;law pay not 1;", 2, at + 10);
        Due.wrong(most + "1;law pay ;", 1, at + 10);
        // what can't stand there is 1, also as a 65th
        Due.wrong(most + "1 1;", 1, at + 2);
        Due.wrong(most + "1 not 1;", 1, at + 2);
        Due.wrong(most + "1;law pay +", 1, at + 10);
        Due.wrong(most + "1;law pay or", 1, at + 10);
        // a number beyond what is said and a 65th KNOT is 2 in any case
        Due.wrong(most + "1;law pay 10000;", 2, at + 10);
        Due.is("64 of not", Due.right("law see " + Due.times("not ", 63) + "1;", 1).count(5), 64);
        Due.is("not 63 times", Due.right("law eat " + Due.times("not ", 63) + "7;", 1).law(1, 0, 0), 0);
        Due.is("not 63 times", Due.right("law eat " + Due.times("not ", 63) + "0;", 1).law(1, 0, 0), 1);
        Due.is("not, and 32 of 0", Due.right("law eat not 0" + Due.times("+0", 31) + ";", 1).law(1, 0, 0), 1);
        Due.is("32 of 9", Due.right("law eat 9" + Due.times("+9", 31) + ";", 1).law(1, 0, 0), 32 * 9);
        Due.is("32 of 9, each behind the others", Due.right("law eat 9" + Due.times("+(9", 8) + Due.times("+9", 23) + "))))))));", 1)
            .law(1, 0, 0), 32 * 9);
        Due.wrong("law see " + Due.times("not ", 64) + "1;", 2, 8 + 64 * 4);
        CrowRota x = Due.right(most + "1;", 2);
        Due.is("a TEXT's KNOTS are its own", Due.text(x, most + "1;"), 2);
        Due.is("also behind a FAULT", Due.text(x, most + "1+") + Due.text(x, most + "1;"), 1);
    }

    /** "a ninth '(' open" */
    private static void open() {
        Due.is("eight", Due.right("law eat ((((((((7))))))));", 1).law(1, 0, 0), 7);
        Due.wrong("law eat (((((((((7)))))))));", 2, 16);
        Due.right("law eat ((((((((7))))))))+((((((((7))))))));", 1);
        Due.wrong("law eat ((((((((7))))))))+(((((((((", 2, 34);
        Due.wrong("law eat ((((((((7)+(", 1, 20);
        Due.wrong("law eat ((((((((7+(", 2, 18);
        Due.right("law eat ((((((((7)+(7))))))));", 1);
        Due.wrong("law eat (((((((((", 2, 16);
        Due.wrong("law eat ((((((((", 1, 16);
        Due.wrong("law eat 1 (", 1, 10);
        Due.right("law eat (((((((1)))))));law see ((((((((1))))))));law pay ((((((((1))))))));", 3);
        Due.wrong("law eat ((((((((7)))))))));", 1, 25);
        Due.wrong("law eat ((((((((7)))))));", 1, 24);
    }

    /** "can't stand there (the length, if more must come)": a TEXT cut anywhere. */
    private static void lengthAsPlace() {
        String text = "field 6 5;crop 5 4 99;scare al 1 2 3 4 5;flap al 0 11;most 12;crows 9;wind 9;gust 10;seed 1;"
            + "law see not(1 and sight)or far<=2*(ripe+1)-3/4;";
        int ends = 0;
        for (int n = 0; n <= text.length(); n++) {
            String cut = text.substring(0, n);
            boolean whole = n == 0 || text.charAt(n - 1) == ';';
            CrowRota x = new CrowRota();
            int lines = Due.text(x, cut);
            Due.is("lines of " + cut, lines, whole ? ends : NONE);
            if (whole) {
                ends++;
                Due.is("with blanks behind", Due.text(x, cut + " \n "), lines);
            } else {
                boolean word = Character.isLetter(text.charAt(n - 1)) && Character.isLetter(text.charAt(n));
                Due.is("fault of " + cut, x.fault(0) == 1 || word || x.fault(0) == 2 ? 1 : 0, 1);
                if (!word && x.fault(0) == 1) {
                    Due.is("place of " + cut, x.fault(1), n);
                    Due.is("with blanks behind", Due.text(x, cut + " \n "), NONE);
                    Due.is("the length of " + cut + " and blanks", x.fault(1), n + 3);
                }
            }
        }
    }

    /** "2 too much: a 17th crop, a seventh scare and so on (at the word of the LINE)" */
    private static void tooManyAtTheWord() {
        // what is wrong in the LINE is behind the word
        Due.wrong(crops(16) + " crop 0 0 5;", 2, 177);
        Due.wrong(crops(16) + "crop 99 99 999;", 2, 176);
        Due.wrong(scares(6) + "\nscare a 0 0 0 0 0;", 2, 109);
        Due.wrong(scares(6) + "scare law;", 2, 108);
        Due.wrong(flaps(10) + "  flap no 0 0;", 2, 141);
        Due.wrong(flaps(10) + "flap 1;", 2, 139);
        Due.wrong(Due.times("wind 1;", 14) + " wind x;", 2, 99);
        // ahead of the word there is a FAULT in the LINE ahead
        Due.wrong(crops(16).substring(0, 175) + " crop 0 0 5;", 1, 176);
    }

    /** "3 told already: field, most, crows, gust, seed (at the word), a law of its RULE (at RULE)" */
    private static void toldAlready() {
        Due.wrong("field 1 1; field x", 3, 11);
        Due.wrong("most 1;wind 1; most x", 3, 15);
        Due.wrong("crows 1;wind 1;crows 100;", 3, 15);
        Due.wrong("gust 1;\ngust", 3, 8);
        Due.wrong("seed 1;seed", 3, 7);
        String[] once = {"field 1 1;", "most 1;", "crows 1;", "gust 1;", "seed 1;", "law see 1;", "law eat 1;", "law pay 1;"};
        StringBuilder all = new StringBuilder();
        for (String line : once) {
            all.append(line);
        }
        for (int k = 0; k < once.length; k++) {
            Due.wrong(all + once[k], 3, all.length() + (k < 5 ? 0 : 4));
            for (int j = 0; j < once.length; j++) {
                if (j != k) {
                    Due.wrong(once[k] + once[j] + once[k], 3, once[k].length() + once[j].length() + (k < 5 ? 0 : 4));
                }
            }
        }
        String[] rules = {"see", "eat", "pay"};
        for (String rule : rules) {
            Due.wrong("law " + rule + " 1;law  " + rule + " 1;", 3, 15);
            Due.wrong("law " + rule + " 1;law " + rule, 3, 14);
            for (String other : rules) {
                if (!other.equals(rule)) {
                    Due.right("law " + rule + " 1;law " + other + " 1;", 2);
                }
            }
        }
        Due.right("law pay 1;law see 1;law eat 1;", 3);
        CrowRota x = Due.right("field 1 1;most 1;crows 1;gust 1;seed 1;crop 0 0 1;scare al 0 0 0 0 0;law see 1;", 8);
        Due.is("told anew", Due.text(x, "field 1 1;most 1;crows 1;gust 1;seed 1;crop 0 0 1;scare al 0 0 0 0 0;law see 1;"), 8);
        Due.is("told anew behind a FAULT", Due.text(x, "most 1;law see 1;x") + Due.text(x, "most 1;law see 1;"), 1);
    }

    private static void laws() {
        for (String word : LANGUAGE) {
            boolean rule = word.equals("see") || word.equals("eat") || word.equals("pay");
            if (!rule) {
                Due.wrong("law " + word + " 1;", 1, 4);
            }
            boolean name = " sight far wind hour grade ripe date ".contains(" " + word + " ");
            if (name) {
                Due.right("law see " + word + ";", 1);
                Due.wrong("law see 1 " + word + ";", 1, 10);
            } else if (word.equals("not")) {
                Due.wrong("law see not;", 1, 11);
                Due.wrong("law see 1 not 1;", 1, 10);
                Due.wrong("law see 1<not 1;", 1, 10);
                Due.wrong("law see 1+not 1;", 1, 10);
                Due.wrong("law see 1*not 1;", 1, 10);
            } else {
                Due.wrong("law see " + word + ";", 1, 8);
            }
        }
        for (int n = 0; n < 120; n++) {
            Due.wrong("law see 1 " + n + ";", 1, 10);
            Due.wrong("law see 1<2 " + n + ";", 1, 12);
            Due.wrong("law see (1 " + n + ");", 1, 11);
            Due.wrong("law " + n + " 1;", 1, 4);
            Due.wrong(n + ";", 1, 0);
        }
        String[] behind = {"a", "abcdef", "zzzzzzz", "(", ")", "(1)", "#", "\u00e9", "field", "crows", "gust", "law", "see", "pay"};
        for (String token : behind) {
            Due.wrong("law see 1 " + token + ";", 1, 10);
            Due.wrong("law see 1 <= " + token + " 1;", 1, token.equals("(1)") ? 17 : token.equals("(") ? 16 : 13);
        }
        Due.wrong("law", 1, 3);
        Due.wrong("law see", 1, 7);
        Due.wrong("law 1;", 1, 4);
        Due.wrong("law see 1", 1, 9);
        Due.wrong("law see 1 and", 1, 13);
        Due.wrong("law see 1 and or 1;", 1, 14);
        Due.wrong("law see *1;", 1, 8);
        Due.wrong("law see )", 1, 8);
        Due.wrong("law see 1<2=3;", 1, 11);
        Due.right("law see (1<2)=3;", 1);
        Due.right("law see 1<2 and 2=3 or 3>4;", 1);
        Due.right("law see not 1 and not not 2 or not(3);", 1);
    }

    /** "FAULTS, the first along the text (of one place the least), with its place" */
    private static void firstAlongTheText() {
        Due.wrong("most 13;!", 2, 5);
        Due.wrong("! most 13;", 1, 0);
        Due.wrong("flap al 12 12;", 4, 5);
        Due.wrong(AL + "flap al 12 !", 2, 27);
        Due.wrong("crop 9 9 999;", 2, 5);
        Due.wrong("crop 0 9 999;", 2, 7);
        Due.wrong("crop 0 0 1;crop 0 0 999;", 3, 18);
        Due.wrong("crop 0 0 1;crop 9 0 1;", 2, 16);
        Due.wrong("crop 0 0 1;crop 0 9 1;", 2, 18);
        Due.wrong(AL + "scare al 9 9 99 99 99;", 3, 25);
        Due.wrong(AL + "scare bo 9 9 99 99 99;", 2, 28);
        Due.wrong("scare bo 0 0 99 99 99;", 2, 13);
        Due.wrong("scare bo 0 0 9 99 99;", 2, 15);
        Due.wrong("law see 1+;law see 1;", 1, 10);
        Due.wrong("law see 1;law see +;", 3, 14);
        Due.wrong("law field;", 1, 4);
        // a LINE of its word alone
        String[] words = {"field", "crop", "scare", "flap", "most", "crows", "wind", "gust", "seed", "law"};
        for (String word : words) {
            Due.wrong(word + ";", 1, word.length());
            Due.wrong(word + " ;", 1, word.length() + 1);
            Due.wrong(word + " " + word + ";", 1, word.length() + 1);
        }
        Due.wrong("law see;", 1, 7);
        Due.wrong("law eat;", 1, 7);
        Due.wrong("law pay;", 1, 7);
        Due.wrong("flap al;", 4, 5);
        Due.wrong(AL + "flap al;", 1, 26);
        Due.wrong(AL + "flap al 3;", 1, 28);
        Due.wrong("field 3;", 1, 7);
        Due.wrong("crop 3;", 1, 6);
        Due.wrong("crop 3 3;", 1, 8);
        Due.wrong("scare al;", 1, 8);
        Due.wrong("scare al 3;", 1, 10);
        Due.wrong("scare al 3 3;", 1, 12);
        Due.wrong("scare al 3 3 3;", 1, 14);
        Due.wrong("scare al 3 3 3 3;", 1, 16);
        // and one with more than it has
        Due.wrong("field 3 3 3;", 1, 10);
        Due.wrong("crop 3 3 3 3;", 1, 11);
        Due.wrong("scare al 3 3 3 3 3 3;", 1, 19);
        Due.wrong(AL + "flap al 3 3 3;", 1, 31);
        Due.wrong("wind 3 3;", 1, 7);
    }
}
