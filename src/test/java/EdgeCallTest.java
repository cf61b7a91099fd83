/** ==== 4. and promises 11 to 13 and 32 to 35: each sentence that names an edge, on both sides of it. */
public final class EdgeCallTest {
    private static final int NONE = CrowRota.NONE;
    private static final int LEAST = Integer.MIN_VALUE;
    private static final int MOST = Integer.MAX_VALUE;
    private static final int[] WRONG_SCARES = {-1, 2, 6, 32, LEAST, MOST};
    private static final String TWO = "field 2 1;scare al 0 0 0 2 3;scare bo 1 0 0 4 5;flap al 0 1;";

    public static void main(String[] args) {
        flap();
        flapFromNowOn();
        strike();
        hat();
        sixOfThem();
        undoNone();
        undoOne();
        undoTwenty();
        undoTwentyOfMany();
        undoLatestFirst();
        undoAfterHours();
        undoBehindBack();
        undoBehindText();
        keep();
        back();
        imageKeeps();
        imageKeepsNot();
        imageInPlace();
        count();
        countLeastAndMost();
        Due.end();
    }

    private static void flap() {
        CrowRota x = Due.of(TWO);
        for (int wrong : WRONG_SCARES) {
            Due.is("flap of " + wrong, x.flap(wrong, 5, true), false);
            Due.is("flap of " + wrong, x.flap(wrong, 5, false), false);
        }
        int[] wrongHours = {-1, 12, 32, 33, LEAST, MOST};
        for (int wrong : wrongHours) {
            Due.is("flap at " + wrong, x.flap(0, wrong, true), false);
            Due.is("flap at " + wrong, x.flap(0, wrong, false), false);
        }
        Due.is("it is so", x.flap(0, 0, true), false);
        Due.is("it is so", x.flap(0, 2, false), false);
        Due.is("it is so", x.flap(1, 11, false), false);
        Due.is("nothing was", x.scare(0, 4) * 100 + x.scare(1, 4), 300);
        Due.is("nothing to undo", x.count(15), 0);
        for (int hour = 0; hour < 12; hour++) {
            Due.is("bo at " + hour, x.flap(1, hour, true), true);
            Due.is("it is so then", x.flap(1, hour, true), false);
            Due.is("rota", x.scare(1, 4), (2 << hour) - 1);
        }
        Due.is("flaps told stay", x.count(3), 1);
        for (int hour = 11; hour >= 0; hour--) {
            Due.is("bo not at " + hour, x.flap(1, hour, false), true);
            Due.is("it is so then", x.flap(1, hour, false), false);
            Due.is("rota", x.scare(1, 4), (1 << hour) - 1);
        }
        Due.is("al's rota stays", x.scare(0, 4), 3);
        Due.is("nobody is told", new CrowRota().flap(0, 0, true), false);
    }

    /** "on the ROTA for an HOUR 0 .. 11 from now on, or no more" */
    private static void flapFromNowOn() {
        CrowRota x = Due.of(TWO);
        x.flap(0, 0, false);
        Due.is("not at this HOUR", x.scare(0, 7), 0);
        x.flap(0, 0, true);
        Due.is("at this HOUR", x.scare(0, 7), 1);
        x.go(1);
        x.flap(1, 0, true);
        Due.is("HOUR 0 went by", x.ahead(1, 1), 2);
        Due.is("on all DAYS to come", x.ahead(3, 1), 2 + 2 * 8);
    }

    private static void strike() {
        CrowRota x = Due.of(TWO);
        for (int wrong : WRONG_SCARES) {
            Due.is("strike of " + wrong, x.strike(wrong, true), false);
            Due.is("strike of " + wrong, x.strike(wrong, false), false);
        }
        Due.is("it is so", x.strike(0, false), false);
        Due.is("nobody is", x.count(12), 0);
        Due.is("nothing to undo", x.count(15), 0);
        Due.is("al", x.strike(0, true), true);
        Due.is("it is so then", x.strike(0, true), false);
        Due.is("al alone", x.scare(0, 5) * 10 + x.scare(1, 5), 10);
        Due.is("from now on", x.scare(0, 7), 0);
        Due.is("no more", x.strike(0, false), true);
        Due.is("it is so then", x.strike(0, false), false);
        Due.is("from now on", x.scare(0, 7), 1);
        Due.is("nobody is told", new CrowRota().strike(0, true), false);
    }

    private static void hat() {
        CrowRota x = Due.of(TWO);
        for (int wrong : WRONG_SCARES) {
            Due.is("hat of " + wrong, x.hat(wrong, 1), false);
        }
        int[] grades = {-1, 10, LEAST, MOST};
        for (int wrong : grades) {
            Due.is("hat " + wrong, x.hat(0, wrong), false);
        }
        Due.is("it is so", x.hat(0, 3), false);
        Due.is("grades stay", x.scare(0, 3) * 10 + x.scare(1, 3), 35);
        Due.is("nothing to undo", x.count(15), 0);
        for (int grade = 0; grade <= 9; grade++) {
            Due.is("bo's hat " + grade, x.hat(1, grade), true);
            Due.is("it is so then", x.hat(1, grade), false);
            Due.is("grade", x.scare(1, 3), grade);
            Due.is("al's grade stays", x.scare(0, 3), 3);
        }
        Due.is("nobody is told", new CrowRota().hat(0, 1), false);
    }

    /** As many SCARES as there may be, each by its own number. */
    private static void sixOfThem() {
        CrowRota x = Due.of("scare a 0 0 0 0 0;scare b 0 0 0 0 0;scare c 0 0 0 0 0;scare d 0 0 0 0 0;scare e 0 0 0 0 0;"
            + "scare f 0 0 0 0 0;");
        for (int i = 0; i < 6; i++) {
            Due.is("strike", x.strike(i, true), true);
            Due.is("hat", x.hat(i, i + 1), true);
            Due.is("flap", x.flap(i, i, true), true);
            Due.is("on strike", x.count(12), i + 1);
        }
        for (int i = 0; i < 6; i++) {
            Due.is("on strike", x.scare(i, 5), 1);
            Due.is("grade", x.scare(i, 3), i + 1);
            Due.is("rota", x.scare(i, 4), 1 << i);
        }
        Due.is("scare 6", x.flap(6, 0, true) || x.strike(6, true) || x.hat(6, 1), false);
        Due.is("what can be undone", x.count(15), 18);
        // as told, as it goes, in an IMAGE: the first as the last
        String told = "field 6 1;crows 0;";
        for (int i = 0; i < 6; i++) {
            told += "scare " + (char) ('a' + i) + " " + i + " 0 " + i + " " + (9 - i) + " " + (i + 4) + ";";
        }
        CrowRota y = Due.of(told + "flap a 0 11;flap f 0 11;most 3;law pay grade*2;");
        y.go(2);
        Due.is("one more HOUR today of both", y.ahead(1, 1), 8 + 18);
        Due.is("and three a DAY behind", y.ahead(2, 1), 4 * (8 + 18));
        y.keep();
        for (int i = 0; i < 6; i++) {
            y.hat(i, i);
            y.strike(i, true);
            y.flap(i, 5, i % 5 != 0);
        }
        y.go(1);
        for (int turn = 0; turn < 2; turn++) {
            y.back();
            for (int i = 0; i < 6; i++) {
                int[] due = {i, i, 9 - i, i + 4, i % 5 == 0 ? 4095 : 0, 0, i % 5 == 0 ? 2 : 0, i % 5 == 0 ? 1 : 0};
                for (int what = 0; what < 8; what++) {
                    Due.is("scare " + i + ", what " + what, y.scare(i, what), due[what]);
                }
            }
            y.go(30);
        }
    }

    private static void undoNone() {
        CrowRota x = new CrowRota();
        Due.is("a new object", x.undo(), NONE);
        CrowRota y = Due.of(TWO);
        Due.is("a TEXT's own", y.undo(), NONE);
        y.flap(0, 0, true);
        y.strike(0, false);
        y.hat(0, 3);
        y.hat(0, 10);
        Due.is("what was refused", y.undo(), NONE);
        y.note(1, 0, 0, true);
        y.known(0);
        y.keep();
        y.back();
        Due.feed(y, " ");
        Due.is("NOTES, KNOWN, an IMAGE, bytes", y.undo(), NONE);
        Due.is("count", y.count(15), 0);
    }

    private static void undoOne() {
        CrowRota x = Due.of(TWO);
        x.flap(0, 11, true);
        Due.is("a flap", x.undo(), 0);
        Due.is("rota", x.scare(0, 4), 3);
        Due.is("none left", x.undo(), NONE);
        x.flap(0, 0, false);
        Due.is("a flap no more", x.undo(), 0);
        Due.is("rota", x.scare(0, 4), 3);
        x.strike(1, true);
        Due.is("a strike", x.undo(), 0);
        Due.is("on strike", x.count(12), 0);
        x.strike(1, true);
        x.strike(1, false);
        Due.is("a strike no more", x.undo(), 1);
        Due.is("on strike", x.scare(1, 5), 1);
        Due.is("the strike", x.undo(), 0);
        x.hat(1, 9);
        Due.is("a hat", x.undo(), 0);
        Due.is("grade", x.scare(1, 3), 5);
        Due.is("none left", x.undo(), NONE);
        Due.is("nothing more is undone", x.scare(0, 4) * 100 + x.scare(0, 3) * 10 + x.scare(1, 3), 335);
        Due.is("what was undone isn't so", x.hat(1, 9), true);
    }

    /** "20 at most": each of the three kinds as the oldest of 20, and of 21. */
    private static void undoTwenty() {
        for (int kind = 0; kind < 3; kind++) {
            for (int more = 19; more <= 21; more++) {
                CrowRota x = Due.of(TWO);
                boolean done = kind == 0 ? x.flap(0, 5, true) : kind == 1 ? x.strike(0, true) : x.hat(0, 7);
                Due.is("the oldest", done, true);
                for (int k = 0; k < more; k++) {
                    x.hat(1, k % 2 == 0 ? 6 : 5);
                    Due.is("what can be undone", x.count(15), Math.min(20, k + 2));
                }
                for (int left = 19; left >= 0; left--) {
                    Due.is("left", x.undo(), left);
                }
                Due.is("none left", x.undo(), NONE);
                Due.is("the oldest of " + (more + 1), x.scare(0, 4) * 100 + x.scare(0, 5) * 10 + x.scare(0, 3),
                    more == 19 ? 303 : kind == 0 ? 3503 : kind == 1 ? 313 : 307);
                Due.is("bo's grade", x.scare(1, 3), more < 21 ? 5 : 6);
            }
        }
    }

    /** Of many of all kinds the latest 20 are undone one by one, each to what was ahead of it. */
    private static void undoTwentyOfMany() {
        for (int many = 18; many <= 45; many += 9) {
            CrowRota x = Due.of(TWO);
            int[][] was = new int[many + 1][];
            for (int k = 0; k <= many; k++) {
                was[k] = new int[] {x.scare(0, 3), x.scare(1, 3), x.scare(0, 4), x.scare(1, 4), x.scare(0, 5), x.scare(1, 5)};
                int i = k / 3 % 2;
                boolean done = k == many || (k % 3 == 0 ? x.hat(i, (was[k][i] + 4) % 10)
                    : k % 3 == 1 ? x.strike(i, was[k][4 + i] == 0) : x.flap(i, k % 12, (was[k][2 + i] >> k % 12 & 1) == 0));
                Due.is("call " + k, done, true);
            }
            int least = Math.max(0, many - 20);
            for (int k = many - 1; k >= least; k--) {
                Due.is("left", x.undo(), k - least);
                int[] is = {x.scare(0, 3), x.scare(1, 3), x.scare(0, 4), x.scare(1, 4), x.scare(0, 5), x.scare(1, 5)};
                for (int part = 0; part < 6; part++) {
                    Due.is("of " + many + ", ahead of call " + k + ", part " + part, is[part], was[k][part]);
                }
            }
            Due.is("none left", x.undo(), NONE);
        }
    }

    private static void undoLatestFirst() {
        CrowRota x = Due.of(TWO);
        x.strike(0, true);
        x.strike(1, true);
        x.hat(0, 1);
        x.hat(0, 2);
        x.flap(1, 4, true);
        x.flap(1, 5, true);
        x.strike(0, false);
        int[] strikes = {3, 3, 3, 3, 3, 1, 0};
        int[] grades = {2, 2, 2, 1, 3, 3, 3};
        int[] rotas = {48, 16, 0, 0, 0, 0, 0};
        for (int left = 6; left >= 0; left--) {
            Due.is("left", x.undo(), left);
            Due.is("strikes with " + left, x.scare(1, 5) * 2 + x.scare(0, 5), strikes[6 - left]);
            Due.is("grade with " + left, x.scare(0, 3), grades[6 - left]);
            Due.is("rota with " + left, x.scare(1, 4), rotas[6 - left]);
        }
    }

    /** "if no HOUR went by since" */
    private static void undoAfterHours() {
        CrowRota x = Due.of(TWO);
        x.hat(0, 1);
        x.go(0);
        x.go(-1);
        x.go(100);
        x.ahead(9, 0);
        x.keeping(0, 1, 0);
        x.costs(0, 2, 0);
        x.chance(1, 1, 1);
        x.tried(4, 0, 1);
        x.fits(0);
        Due.is("no HOUR went by", x.undo(), 0);
        x.hat(0, 1);
        x.go(1);
        Due.is("one went by", x.undo(), NONE);
        Due.is("grade", x.scare(0, 3), 1);
        x.hat(0, 2);
        Due.is("since then none", x.undo(), 0);
        Due.is("grade", x.scare(0, 3), 1);
        Due.is("no further", x.undo(), NONE);
    }

    /** "(nothing to undo then)" */
    private static void undoBehindBack() {
        CrowRota x = Due.of(TWO);
        x.hat(0, 1);
        x.keep();
        Due.is("keeping leaves it", x.count(15), 1);
        x.hat(0, 2);
        x.back();
        Due.is("nothing to undo", x.undo(), NONE);
        Due.is("grade", x.scare(0, 3), 1);
        x.hat(0, 4);
        Due.is("one", x.undo(), 0);
        Due.is("grade", x.scare(0, 3), 1);
        x.hat(0, 5);
        Due.is("an IMAGE is kept", x.keep(), 0);
        Due.is("it can be undone still", x.undo(), 0);
        Due.is("the IMAGE has it", x.back() + x.scare(0, 3), 5);
        CrowRota y = Due.of(TWO);
        y.hat(0, 1);
        Due.is("back without an IMAGE", y.back(), NONE);
        Due.is("leaves it", y.undo(), 0);
    }

    private static void undoBehindText() {
        CrowRota x = Due.of(TWO);
        x.hat(0, 1);
        Due.is("a FAULT", Due.text(x, "most"), NONE);
        Due.is("leaves it", x.count(15), 1);
        Due.is("-2", x.text(1), -2);
        Due.is("leaves it", x.count(15), 1);
        Due.is("a TEXT", Due.text(x, TWO), 4);
        Due.is("doesn't", x.undo(), NONE);
    }

    private static void keep() {
        CrowRota x = new CrowRota();
        Due.is("day 0", x.keep(), 0);
        x.go(11);
        Due.is("hour 11 of day 0", x.keep(), 0);
        x.go(1);
        Due.is("day 1", x.keep(), 1);
        for (int k = 0; k < 120; k++) {
            x.go(99);
        }
        Due.is("day 991", x.keep(), 991);
        x.go(99);
        Due.is("day 999", x.keep(), 999);
        Due.is("back", x.back(), 999);
    }

    private static void back() {
        CrowRota x = Due.of(TWO);
        Due.is("there is none", x.back(), NONE);
        x.go(13);
        Due.is("there is none", x.back(), NONE);
        Due.is("nothing went back", x.count(7) * 100 + x.count(6), 101);
        x.keep();
        for (int k = 0; k < 3; k++) {
            x.go(30);
            Due.is("as often as asked", x.back(), 1);
            Due.is("hour", x.count(6), 1);
        }
        Due.is("at once once more", x.back(), 1);
        Due.is("a FAULT leaves it", Due.text(x, ";"), NONE);
        Due.is("back", x.back(), 1);
        Due.is("a TEXT doesn't", x.text(0), 0);
        Due.is("there is none", x.back(), NONE);
    }

    /** "An IMAGE keeps all but ..." */
    private static void imageKeeps() {
        CrowRota x = Due.of("field 2 1;scare al 0 0 0 2 3;scare bo 1 0 0 4 5;flap al 0 1;crows 1;");
        x.go(2);
        x.hat(0, 6);
        x.strike(1, true);
        x.flap(1, 7, true);
        x.keep();
        x.hat(0, 7);
        x.hat(1, 8);
        x.strike(1, false);
        x.strike(0, true);
        x.flap(1, 8, true);
        x.flap(0, 1, false);
        x.go(25);
        Due.is("back", x.back(), 0);
        // 10 and 10 are there: they were scared at cell 0 twice
        int[] due = {2, 1, 2, 1, 0, 0, 2, 0, 20, 0, 4, 2, 1, 0, 0, 0};
        for (int what = 0; what < 16; what++) {
            Due.is("count(" + what + ")", x.count(what), due[what]);
        }
        int[] al = {0, 0, 2, 6, 3, 0, 2, 0};
        int[] bo = {1, 0, 4, 5, 128, 1, 0, 0};
        for (int what = 0; what < 8; what++) {
            Due.is("al " + what, x.scare(0, what), al[what]);
            Due.is("bo " + what, x.scare(1, what), bo[what]);
        }
        Due.is("what was SEEN at HOUR 0", x.expects(0), 2);
        Due.is("what was SEEN at HOUR 1", x.expects(1), 2);
        Due.is("what was SEEN at HOUR 2", x.expects(2), 3);
        Due.is("crop", x.cell(0, 0) * 100 + x.cell(1, 0), 1010);
        // it stays as it was, whatever is done with what came of it
        x.hat(0, 9);
        x.go(3);
        Due.is("back once more", x.back() + x.scare(0, 3), 6);
        Due.is("nothing eaten", x.count(9), 0);
    }

    /** "... NOTES, by how many it is KNOWN, the TAPE and the FAULT" */
    private static void imageKeepsNot() {
        CrowRota x = Due.of(TWO);
        x.note(1, 0, 0, true);
        x.known(0);
        x.keep();
        Due.is("notes, known behind keep", x.count(13) * 10 + x.count(14), 10);
        x.note(1, 1, 11, true);
        Due.is("known by 0 behind keep", x.count(14), 0);
        x.known(2);
        Due.is("a FAULT", Due.text(x, "   !"), NONE);
        Due.feed(x, "most 1;");
        Due.is("back", x.back(), 0);
        Due.is("notes", x.count(13), 2);
        Due.is("known", x.count(14), 2);
        Due.is("the second one counts", x.fits(0), 0);
        Due.is("fault", x.fault(0), 1);
        Due.is("place", x.fault(1), 3);
        Due.is("the TAPE", x.text(20), 1);
        CrowRota y = Due.of(TWO);
        y.known(-1);
        y.keep();
        y.known(0);
        y.back();
        y.note(1, 0, 0, true);
        Due.is("known by 0 still", y.count(14), 0);
        CrowRota z = Due.of(TWO);
        Due.feed(z, "most 1;");
        z.keep();
        z.text(7);
        z.keep();
        z.back();
        Due.is("the TAPE is empty still", z.text(1), -2);
    }

    /** "(in place of one ahead)" */
    private static void imageInPlace() {
        CrowRota x = Due.of(TWO);
        x.go(1);
        x.hat(0, 8);
        x.keep();
        x.go(24);
        x.hat(0, 9);
        Due.is("in its place", x.keep(), 2);
        x.go(24);
        Due.is("back", x.back(), 2);
        Due.is("the latter", x.scare(0, 3), 9);
        x.go(24);
        Due.is("never to the former", x.back(), 2);
    }

    private static void count() {
        CrowRota x = Due.of(TWO);
        int[] whats = {-1, 16, 17, 32, LEAST, MOST};
        for (int what : whats) {
            Due.is("count(" + what + ")", x.count(what), NONE);
        }
    }

    /** Each count where it is least, and where it is most. */
    private static void countLeastAndMost() {
        CrowRota x = Due.of("field 1 1;crop 0 0 0;");
        int[] least = {1, 1, 0, 0, 0, 0, 0, 0, 0, 0, 0, 0, 0, 0, 0, 0};
        for (int what = 0; what < 16; what++) {
            Due.is("least count(" + what + ")", x.count(what), least[what]);
        }
        StringBuilder text = new StringBuilder("field 6 5;crows 0;");
        for (int i = 0; i < 16; i++) {
            text.append("crop ").append(i % 6).append(' ').append(i / 6).append(" 99;");
        }
        for (int i = 0; i < 6; i++) {
            text.append("scare ").append((char) ('a' + i)).append(" 0 0 0 9 9;");
        }
        text.append(Due.times("flap a 0 11;", 10)).append(Due.times("wind 0;", 14));
        CrowRota y = Due.of(text.toString());
        y.go(12);
        for (int i = 0; i < 6; i++) {
            y.strike(i, true);
        }
        for (int k = 0; k < 24; k++) {
            y.note(1, 0, 0, true);
            y.hat(0, k % 9);
        }
        int[] most = {6, 5, 6, 10, 14, 0, 0, 1, 16 * 99 + 14 * 10, 0, 108, 12, 6, 24, 24, 20};
        for (int what = 0; what < 16; what++) {
            Due.is("most count(" + what + ")", y.count(what), most[what]);
        }
        y.known(23);
        Due.is("known by all but one", y.count(14), 23);
        y.known(24);
        Due.is("known by 24", y.count(14), 24);
    }
}
