/** Promises 26 to 31: note, out, known, fits, chance, tried. */
public final class NotesTest {
    private static final int NONE = CrowRota.NONE;

    public static void main(String[] args) {
        noting();
        knowing();
        fitting();
        chances();
        trying();
        Due.end();
    }

    private static void noting() {
        CrowRota x = Due.of("field 2 2;");
        Due.is("note", x.note(1, 0, 0, true), 0);
        Due.is("note", x.note(48, 3, 99, false), 1);
        Due.is("0 hours", x.note(0, 0, 0, true), NONE);
        Due.is("49 hours", x.note(49, 0, 0, true), NONE);
        Due.is("no cell", x.note(1, 4, 0, true), NONE);
        Due.is("cell -1", x.note(1, -1, 0, true), NONE);
        Due.is("crop 100", x.note(1, 0, 100, true), NONE);
        Due.is("crop -1", x.note(1, 0, -1, true), NONE);
        Due.is("out", x.out(1), 2);
        Due.is("out of what strikes", x.out(2), 3);
        Due.is("out of itself", x.out(4), NONE);
        Due.is("out of -1", x.out(-1), NONE);
        for (int k = 4; k < 24; k++) {
            Due.is("note " + k, k % 2 == 0 ? x.note(1, 0, 0, true) : x.out(0), k);
        }
        Due.is("a 25th note", x.note(1, 0, 0, true), NONE);
        Due.is("a 25th, that strikes", x.out(0), NONE);
        Due.is("24", x.count(13), 24);
        x.text(0);
        Due.is("none behind a text", x.count(13), 0);
        Due.is("out of none", x.out(0), NONE);
    }

    private static void knowing() {
        CrowRota x = Due.of("field 1 1;scare al 0 0 0 1 1;crows 1;");
        // CROP is 9 behind HOUR 0, if al isn't there then
        x.note(1, 0, 10, true);
        x.out(0);
        x.out(1);
        Due.is("by all: what strikes is struck", x.fits(0), 1);
        Due.is("known by 2", x.known(2), true);
        Due.is("by 2: struck", x.fits(0), 4095);
        Due.is("known by 1", x.known(1), true);
        Due.is("by 1", x.fits(0), 1);
        Due.is("known by 0", x.known(0), true);
        Due.is("by 0", x.fits(0), 4095);
        Due.is("known by 3", x.known(3), true);
        Due.is("by 3", x.fits(0), 1);
        x.out(2);
        Due.is("one more isn't known", x.fits(0), 1);
        Due.is("known by 3 still", x.count(14), 3);
        Due.is("known by 5", x.known(5), false);
        Due.is("known by -2", x.known(-2), false);
        Due.is("known by 3 still", x.count(14), 3);
        Due.is("known by all", x.known(-1), true);
        Due.is("by all", x.fits(0), 4095);
        x.note(1, 0, 10, false);
        Due.is("also those to come", x.count(14), 5);
        Due.is("less than 10 behind hour 0", x.fits(0), 4094);
        x.known(2);
        Due.text(x, "scare al 0 0 0 1 1;");
        for (int k = 1; k <= 3; k++) {
            x.note(1, 0, 0, true);
            Due.is("a text: all known", x.count(14), k);
        }
    }

    private static void fitting() {
        CrowRota x = Due.of("field 1 1;scare al 0 0 0 1 1;scare bo 0 0 0 1 1;flap al 0 11;crows 1;flap bo 5 5;");
        x.note(3, 0, 8, true);
        Due.is("one of three hours", x.fits(0), 7);
        Due.is("others as they are", x.fits(1), 4095);
        x.go(7);
        x.flap(1, 2, true);
        x.strike(0, true);
        x.hat(0, 9);
        Due.is("from the text on", x.fits(0), 7);
        Due.is("it is where it was", x.count(6), 7);
        x.note(6, 0, 6, true);
        Due.is("bo is on the rota at hour 5", x.fits(0), 7);
        x.note(7, 0, 5, false);
        Due.is("none", x.fits(0), 0);
        Due.is("no scare", x.fits(2), NONE);
        Due.is("scare -1", x.fits(-1), NONE);
        CrowRota y = Due.of("field 1 1;crop 0 0 50;scare al 0 0 0 1 1;crows 1;");
        // four days of twelve, but for the hour at which they are scared once and expect somebody then
        y.note(48, 0, 7, true);
        Due.is("48 hours, more than is left", y.fits(0), 0);
        y.out(0);
        y.note(48, 0, 6, true);
        Due.is("48 hours, what is left", y.fits(0), 4095);
    }

    /** The WINDS as the numbers tell them, from the seed on. */
    private static int[] winds(int seed, int n) {
        long last = seed;
        int[] all = new int[n];
        for (int k = 0; k < n; k++) {
            last = (last * 1103515245L + 12345L) % 2147483648L;
            all[k] = (int) (last / 65536 % 10);
        }
        return all;
    }

    private static void chances() {
        CrowRota x = Due.of("field 1 1;crop 0 0 99;scare al 0 0 0 1 1;gust 5;crows 4;wind 9;wind 9;seed 7;");
        // today all flap and are seen; a day behind a gust nobody comes, a gust by lot scares as well
        int[] drawn = winds(77, 10);
        int none = 0;
        for (int k = 0; k < 10; k++) {
            none += drawn[k] >= 5 ? 1 : 0;
        }
        Due.is("day 1 is feared in any case", x.chance(77, 1, 1), 0);
        drawn = winds(77, 20);
        int eaten = 0;
        for (int k = 0; k < 10; k++) {
            eaten += drawn[2 * k] < 5 && drawn[2 * k + 1] < 5 ? 1 : 0;
        }
        Due.is("day 2, if there's no gust on either", x.chance(77, 2, 48), eaten);
        Due.is("a bit more", x.chance(77, 2, 49), 0);
        Due.is("bound 0", x.chance(0, 9, 0), 10);
        Due.is("bound 9999", x.chance(2147483647, 9, 9999), 0);
        Due.is("bound 10000", x.chance(0, 9, 10000), NONE);
        Due.is("bound -1", x.chance(0, 9, -1), NONE);
        Due.is("no days", x.chance(0, 0, 0), NONE);
        Due.is("ten days", x.chance(0, 10, 0), NONE);
        Due.is("seed -1", x.chance(-1, 1, 0), NONE);
        Due.is("winds stay", x.wind(1), 9);
        Due.is("as it goes stays", x.ahead(3, 0), 0);
    }

    private static void trying() {
        CrowRota x = Due.of("field 3 1;crop 0 0 9;crop 1 0 8;crop 2 0 7;scare al 0 0 0 1 1;scare bo 2 0 0 1 1;"
            + "flap al 0 11;flap bo 6 11;most 3;crows 1;");
        // scared at hours 0 to 2 by al, at 8 by bo
        Due.is("as it goes", x.ahead(1, 0), 8);
        Due.is("they expect nobody anywhere, as on day 0", x.tried(0, 0, 1), 8);
        Due.is("all on strike", x.tried(1, 0, 1), 12);
        Due.is("al isn't there", x.tried(2, 0, 1), 11);
        Due.is("sights are more by one", x.tried(3, 0, 1), 7);
        Due.is("all flap", x.tried(4, 0, 1), 0);
        Due.is("most is 12", x.tried(5, 0, 1), 0);
        Due.is("as it goes still", x.ahead(1, 0), 8);
        Due.is("what 6", x.tried(6, 0, 1), NONE);
        Due.is("what -1", x.tried(-1, 0, 1), NONE);
        Due.is("no days", x.tried(0, 0, 0), NONE);
        Due.is("ten days", x.tried(0, 0, 10), NONE);
        for (int what = 0; what < 6; what++) {
            Due.is("i of " + what, x.tried(what, 2, 1), NONE);
            Due.is("i of " + what, x.tried(what, -1, 1), NONE);
            if (what != 2) {
                Due.is("i 1 of " + what, x.tried(what, 1, 1), NONE);
            }
        }
        CrowRota y = Due.of("field 1 1;crop 0 0 99;scare al 0 0 0 1 1;flap al 0 3;most 2;crows 1;wind 0;wind 0;wind 9;gust 9;");
        Due.is("as it goes", y.ahead(2, 0), 10 + 10);
        Due.is("most is 12", y.tried(5, 0, 2), 8 + 8);
        Due.is("all flap", y.tried(4, 0, 2), 0);
        Due.is("it isn't there", y.tried(2, 0, 3), 36);
        Due.is("on strike it flaps in a gust", y.tried(1, 0, 3), 24);
        Due.is("they expect nobody anywhere", y.tried(0, 0, 2), 20);
        CrowRota z = Due.of("field 2 1;crop 0 0 50;crop 1 0 0;scare al 1 0 0 1 1;flap al 0 1;crows 1;");
        Due.is("as it goes", z.ahead(1, 0), 12);
        Due.is("sights are more by one", z.tried(3, 0, 1), 10);
        Due.is("sight stays", z.scare(0, 1), 0);
        CrowRota w = Due.of("field 2 1;crop 0 0 50;crop 1 0 40;scare al 0 0 0 1 1;flap al 0 11;crows 1;");
        Due.is("a day on they expect al", w.ahead(2, 0), 12);
        Due.is("they expect nobody anywhere", w.tried(0, 0, 2), 0);
    }
}
