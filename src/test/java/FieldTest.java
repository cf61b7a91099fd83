/** Promises 5 to 8 and 35: named, cell, scare, wind, count; 11 to 13: flap, strike, hat; 32 to 34: undo, keep, back. */
public final class FieldTest {
    public static void main(String[] args) {
        names();
        cells();
        scares();
        winds();
        counts();
        calls();
        undoing();
        images();
        Due.end();
    }

    private static void names() {
        CrowRota x = Due.of("scare a 0 0 0 0 0;scare ab 0 0 0 0 0;scare zzzzzz 0 0 0 0 0;scare fields 0 0 0 0 0;");
        Due.is("a", x.named(1 << 25), 0);
        Due.is("ab", x.named(1 << 25 | 2 << 20), 1);
        Due.is("zzzzzz", x.named(Due.letters("zzzzzz")), 2);
        Due.is("fields", x.named(Due.letters("fields")), 3);
        Due.is("a, wrongly", x.named(1), CrowRota.NONE);
        Due.is("b", x.named(Due.letters("b")), CrowRota.NONE);
        Due.is("nothing", x.named(0), CrowRota.NONE);
        Due.is("below 0", x.named(-1), CrowRota.NONE);
        Due.is("above 30 bits", x.named(1 << 30 | 1 << 25), CrowRota.NONE);
        Due.text(x, "scare b 0 0 0 0 0;");
        Due.is("a is gone", x.named(Due.letters("a")), CrowRota.NONE);
        Due.is("b is there", x.named(Due.letters("b")), 0);
    }

    /** 1: IndexOutOfBoundsException, 2: NoSuchElementException, else 10 and the answer. */
    private static int asked(CrowRota x, int cell, int what) {
        try {
            return 10 + x.cell(cell, what);
        } catch (IndexOutOfBoundsException e) {
            return e.getClass() == IndexOutOfBoundsException.class ? 1 : 3;
        } catch (java.util.NoSuchElementException e) {
            return 2;
        }
    }

    private static void cells() {
        CrowRota x = Due.of("field 3 2;crop 2 1 7;crop 1 0 99;scare al 0 0 1 0 0;flap al 0 0;flap al 2 2;");
        int[] crop = {10, 99, 10, 10, 10, 7};
        for (int cell = 0; cell < 6; cell++) {
            Due.is("crop of " + cell, x.cell(cell, 0), crop[cell]);
            Due.is("seen a day ahead " + cell, x.cell(cell, 1), 0);
            Due.is("seen now " + cell, x.cell(cell, 2), cell == 0 || cell == 1 || cell == 3 ? 1 : 0);
        }
        Due.is("no cell", asked(x, 6, 0), 1);
        Due.is("cell -1", asked(x, -1, 0), 1);
        Due.is("cell 2147483647", asked(x, 2147483647, 2), 1);
        Due.is("no what", asked(x, 5, 3), 2);
        Due.is("what -1", asked(x, 0, -1), 2);
        Due.is("neither", asked(x, 6, 3), 1);
        x.go(1);
        Due.is("hour 1: none flaps", x.cell(0, 2), 0);
        x.go(11);
        Due.is("a day behind", x.cell(0, 1), 1);
        Due.is("a day behind, not seen", x.cell(2, 1), 0);
        x.go(1);
        Due.is("hour 1 wasn't seen", x.cell(0, 1), 0);
        x.go(1);
        Due.is("hour 2 was", x.cell(3, 1), 1);
        x.strike(0, true);
        Due.is("on strike none is seen", x.cell(0, 2), 0);
    }

    private static void scares() {
        CrowRota x = Due.of("field 3 2;scare al 2 1 4 5 6;scare bo 0 1 9 8 7;flap al 0 1;flap al 1 3;flap bo 11 11;"
            + "most 2;wind 3;wind 5;gust 5;");
        int[] al = {5, 4, 5, 6, 15, 0, 0, 1};
        int[] bo = {3, 9, 8, 7, 2048, 0, 0, 0};
        for (int what = 0; what < 8; what++) {
            Due.is("al " + what, x.scare(0, what), al[what]);
            Due.is("bo " + what, x.scare(1, what), bo[what]);
        }
        Due.is("what 8", x.scare(0, 8), CrowRota.NONE);
        Due.is("what -1", x.scare(0, -1), CrowRota.NONE);
        Due.is("no scare", x.scare(2, 0), CrowRota.NONE);
        Due.is("scare -1", x.scare(-1, 0), CrowRota.NONE);
        x.strike(0, true);
        Due.is("on strike", x.scare(0, 5), 1);
        Due.is("on strike it wouldn't flap", x.scare(0, 7), 0);
        x.strike(0, false);
        x.go(2);
        Due.is("flapped", x.scare(0, 6), 2);
        Due.is("as often as most", x.scare(0, 7), 0);
        x.go(9);
        Due.is("bo at hour 11", x.scare(1, 7), 1);
        x.go(1);
        Due.is("a new day", x.scare(0, 6), 0);
        Due.is("on the rota in a gust", x.scare(0, 7), 1);
        Due.is("for nothing in a gust", x.scare(1, 7), 2);
        x.strike(0, true);
        Due.is("on strike in a gust", x.scare(0, 7), 2);
        x.strike(0, false);
        x.go(2);
        Due.is("as often as most in a gust", x.scare(0, 7), 2);
        Due.is("for nothing isn't counted", x.scare(1, 6), 0);
    }

    private static void winds() {
        CrowRota x = Due.of("wind 4;wind 0;wind 9;");
        int[] winds = {4, 0, 9, 0};
        for (int day = 0; day < 4; day++) {
            Due.is("wind of " + day, x.wind(day), winds[day]);
        }
        Due.is("wind of 999", x.wind(999), 0);
        Due.is("wind of 1000", x.wind(1000), CrowRota.NONE);
        Due.is("wind of -1", x.wind(-1), CrowRota.NONE);
        Due.text(x, "wind 1;");
        Due.is("winds are told anew", x.wind(2), 0);
    }

    private static void counts() {
        CrowRota x = Due.of("field 3 2;crop 0 0 0;scare al 2 1 0 5 6;scare bo 0 1 0 8 7;flap al 0 1;flap bo 1 3;flap al 0 0;"
            + "wind 3;wind 5;crows 2;law pay 4+hour;");
        int[] due = {3, 2, 2, 3, 2, 3, 0, 0, 50, 0, 0, 0, 0, 0, 0, 0};
        for (int what = 0; what < 16; what++) {
            Due.is("count(" + what + ")", x.count(what), due[what]);
        }
        Due.is("count(16)", x.count(16), CrowRota.NONE);
        Due.is("count(-1)", x.count(-1), CrowRota.NONE);
        x.note(1, 1, 1, true);
        x.out(0);
        x.note(1, 1, 1, true);
        x.go(13);
        x.strike(1, true);
        x.hat(0, 0);
        int[] later = {3, 2, 2, 3, 2, 3, 1, 1, 28, 22, 31, 2, 1, 3, 3, 2};
        for (int what = 0; what < 16; what++) {
            Due.is("later count(" + what + ")", x.count(what), later[what]);
        }
        x.known(1);
        Due.is("known by one", x.count(14), 1);
        x.known(0);
        Due.is("known by none", x.count(14), 0);
        x.known(-1);
        Due.is("known by all", x.count(14), 3);
    }

    private static void calls() {
        CrowRota x = Due.of("scare al 0 0 1 2 3;scare bo 1 1 1 2 3;flap al 2 4;");
        Due.is("flap on", x.flap(0, 0, true), true);
        Due.is("it is so", x.flap(0, 0, true), false);
        Due.is("rota", x.scare(0, 4), 29);
        Due.is("flap off", x.flap(0, 3, false), true);
        Due.is("it is so", x.flap(0, 3, false), false);
        Due.is("rota", x.scare(0, 4), 21);
        Due.is("other rota", x.scare(1, 4), 0);
        Due.is("hour 11", x.flap(1, 11, true), true);
        Due.is("rota", x.scare(1, 4), 2048);
        Due.is("hour 12", x.flap(0, 12, true), false);
        Due.is("hour -1", x.flap(0, -1, true), false);
        Due.is("no scare", x.flap(2, 0, true), false);
        Due.is("scare -1", x.flap(-1, 0, true), false);
        Due.is("strike", x.strike(1, true), true);
        Due.is("it is so", x.strike(1, true), false);
        Due.is("strikes", x.scare(1, 5) * 2 + x.scare(0, 5), 2);
        Due.is("no strike, as it is", x.strike(0, false), false);
        Due.is("no more", x.strike(1, false), true);
        Due.is("no scare", x.strike(2, true), false);
        Due.is("scare -1", x.strike(-1, true), false);
        Due.is("hat", x.hat(0, 9), true);
        Due.is("it is so", x.hat(0, 9), false);
        Due.is("hat 0", x.hat(1, 0), true);
        Due.is("grades", x.scare(0, 3) * 10 + x.scare(1, 3), 90);
        Due.is("hat 10", x.hat(0, 10), false);
        Due.is("hat -1", x.hat(0, -1), false);
        Due.is("no scare", x.hat(2, 1), false);
        Due.is("all of these can be undone", x.count(15), 7);
    }

    private static void undoing() {
        CrowRota x = Due.of("scare al 0 0 1 2 3;scare bo 1 1 1 2 3;flap al 2 4;");
        Due.is("nothing to undo", x.undo(), CrowRota.NONE);
        x.flap(0, 3, false);
        x.strike(1, true);
        x.hat(0, 7);
        x.hat(0, 8);
        x.strike(1, false);
        x.flap(0, 3, true);
        Due.is("rota again", x.undo(), 5);
        Due.is("rota", x.scare(0, 4), 20);
        Due.is("strike again", x.undo(), 4);
        Due.is("on strike", x.scare(1, 5), 1);
        Due.is("hat again", x.undo(), 3);
        Due.is("grade", x.scare(0, 3), 7);
        Due.is("go(0) lets no hour go by", x.go(0), 0);
        Due.is("what can't be is no step", x.go(100) + x.undo(), CrowRota.NONE + 2);
        Due.is("grade", x.scare(0, 3), 3);
        x.go(1);
        Due.is("an hour went by", x.undo(), CrowRota.NONE);
        Due.is("still on strike", x.scare(1, 5), 1);
        for (int i = 0; i < 25; i++) {
            x.hat(1, i % 9);
        }
        Due.is("20 at most", x.count(15), 20);
        for (int left = 19; left >= 0; left--) {
            Due.is("left", x.undo(), left);
            Due.is("grade with " + left, x.scare(1, 3), (left + 4) % 9);
        }
        Due.is("none left", x.undo(), CrowRota.NONE);
        // the oldest of 21 falls out, whatever kind it and its followers are
        x.strike(0, true);
        x.hat(1, 9);
        for (int h = 0; h < 6; h++) {
            x.flap(1, h, true);
            x.flap(0, h + 6, true);
            x.hat(0, h + 4);
        }
        x.strike(1, false);
        Due.is("20 of 21", x.count(15), 20);
        for (int left = 19; left >= 0; left--) {
            Due.is("left", x.undo(), left);
        }
        Due.is("the strike stays", x.scare(0, 5), 1);
        Due.is("all else is undone", x.scare(1, 3) * 10 + x.scare(1, 5), 41);
        Due.is("all else is undone", x.scare(0, 4) * 100 + x.scare(1, 4) * 10 + x.scare(0, 3), 20 * 100 + 3);
        x.hat(0, 1);
        Due.text(x, "scare al 0 0 1 2 3;");
        Due.is("a text", x.undo(), CrowRota.NONE);
    }

    private static void images() {
        CrowRota x = Due.of("field 3 1;scare al 0 0 0 2 3;flap al 0 11;crows 3;wind 2;");
        Due.is("no image", x.back(), CrowRota.NONE);
        x.go(26);
        x.hat(0, 5);
        x.strike(0, true);
        Due.is("keep", x.keep(), 2);
        int[] kept = new int[16];
        for (int what = 0; what < 16; what++) {
            kept[what] = x.count(what);
        }
        Due.is("keeping leaves what can be undone", x.count(15), 2);
        int crop = x.cell(1, 0);
        int seen = x.cell(0, 1);
        x.strike(0, false);
        x.flap(0, 2, false);
        x.go(30);
        x.hat(0, 1);
        x.note(1, 0, 0, true);
        x.known(1);
        Due.feed(x, "wind 1;");
        Due.is("back", x.back(), 2);
        for (int what = 0; what < 13; what++) {
            Due.is("back count(" + what + ")", x.count(what), kept[what]);
        }
        Due.is("notes stay", x.count(13), 1);
        Due.is("known stays", x.count(14), 1);
        Due.is("nothing to undo", x.count(15), 0);
        Due.is("crop", x.cell(1, 0), crop);
        Due.is("seen", x.cell(0, 1), seen);
        Due.is("grade", x.scare(0, 3), 5);
        Due.is("rota", x.scare(0, 4), 4095);
        Due.is("strike", x.scare(0, 5), 1);
        Due.is("flapped", x.scare(0, 6), 2);
        x.go(99);
        Due.is("back once more", x.back(), 2);
        Due.is("hour", x.count(6), 2);
        x.go(24);
        Due.is("in place of one ahead", x.keep(), 4);
        x.go(24);
        Due.is("back to that", x.back(), 4);
        Due.is("the tape stayed", x.text(7), 1);
        Due.is("no image behind a text", x.back(), CrowRota.NONE);
    }
}
