/** Promises 14 to 25: go, ahead, clash, keeping, allSeen, oneMore, costs, both, expects, idle, lot, share. */
public final class AskTest {
    private static final int NONE = CrowRota.NONE;

    public static void main(String[] args) {
        going();
        winds();
        eating();
        ahead();
        clash();
        keeping();
        allSeen();
        oneMore();
        costs();
        both();
        expects();
        idle();
        lot();
        share();
        Due.end();
    }

    private static void going() {
        CrowRota x = new CrowRota();
        Due.is("go(-1)", x.go(-1), NONE);
        Due.is("go(100)", x.go(100), NONE);
        Due.is("go(0)", x.go(0), 0);
        Due.is("nothing went by", x.count(9), 0);
        for (int k = 1; k <= 121; k++) {
            Due.is("go(99)", x.go(99), k * 99 % 12);
        }
        Due.is("day", x.count(7), 998);
        Due.is("too far", x.go(21), NONE);
        Due.is("hour", x.count(6), 3);
        Due.is("go(20)", x.go(20), 11);
        Due.is("last day", x.count(7), 999);
        Due.is("no further", x.go(1), NONE);
        Due.is("go(0)", x.go(0), 11);
        Due.is("days beyond the last", x.ahead(9, 0), 0);
        Due.is("keep", x.keep(), 999);
    }

    private static void winds() {
        CrowRota x = Due.of("field 3 1;scare al 0 0 0 7 0;scare bo 2 0 0 6 0;flap al 0 0;most 0;wind 8;wind 9;gust 9;crows 1;");
        Due.is("most 0", x.ahead(1, 1), 0);
        Due.is("no gust on day 0: never scared", x.ahead(1, 2), 0);
        // day 0 leaves 6 6 6; on day 1 all is open and cell 0 and 2 are seen: 6 6 6, scared at cell 0 all day
        Due.is("a gust on day 1", x.ahead(2, 2), 12);
        // day 2: at each hour 0 and 2 are feared, so cell 1 is eaten
        Due.is("none behind it", x.ahead(3, 0), 12 + 6);
        CrowRota y = Due.of("field 3 1;scare al 0 0 0 7 0;flap al 0 1;gust 0;most 1;");
        Due.is("for pay in a gust as well", y.ahead(1, 1), 7);
        y.strike(0, true);
        Due.is("on strike for nothing", y.scare(0, 7), 2);
        Due.is("on strike for nothing", y.ahead(1, 1), 0);
        CrowRota z = Due.of("gust 10;wind 9;scare al 0 0 0 7 0;");
        Due.is("gust 10 never is", z.scare(0, 7), 0);
    }

    private static void eating() {
        CrowRota x = Due.of("field 2 1;crop 0 0 50;crop 1 0 60;law eat ripe-55;law pay 200-hour;scare al 0 0 0 1 0;flap al 1 1;");
        x.go(1);
        Due.is("60: 5", x.cell(1, 0), 55);
        x.go(1);
        Due.is("55: 0", x.count(9), 5);
        Due.is("pay is put to 99", x.count(10), 99);
        CrowRota y = Due.of("field 1 1;crop 0 0 50;law eat 0-7;law pay 0-1;scare al 0 0 0 5 0;flap al 0 11;law see 0;");
        y.go(12);
        Due.is("below 0 is 0", y.count(9), 0);
        Due.is("pay below 0 is 0", y.count(10), 0);
        CrowRota z = Due.of("field 1 1;crop 0 0 50;crows 7;law eat 1/(hour-1)*200;law pay 1/(hour-1)*20;"
            + "scare al 0 0 0 5 0;flap al 0 2;law see 0;");
        z.go(1);
        Due.is("hour 0: -200", z.count(9), 0);
        z.go(1);
        Due.is("hour 1: an ERROR", z.count(9), 7);
        Due.is("hour 1: an ERROR of pay", z.count(10), 5);
        z.go(1);
        Due.is("hour 2: 200, no more than is there", z.count(9), 50);
        Due.is("hour 2: 20", z.count(10), 25);
        z.go(1);
        Due.is("nothing is left", z.count(11), 0);
    }

    private static void ahead() {
        CrowRota x = Due.of("field 2 1;crop 0 0 9;crop 1 0 4;crows 2;scare al 0 0 0 3 0;flap al 0 0;");
        Due.is("eaten", x.ahead(1, 0), 13);
        Due.is("spent", x.ahead(1, 1), 3);
        Due.is("scared", x.ahead(1, 2), 1);
        Due.is("nine days", x.ahead(9, 1), 27);
        Due.is("no days", x.ahead(0, 0), NONE);
        Due.is("ten days", x.ahead(10, 0), NONE);
        Due.is("what 3", x.ahead(1, 3), NONE);
        Due.is("what -1", x.ahead(1, -1), NONE);
        Due.is("all stays", x.count(8) * 10 + x.count(6), 130);
        x.go(6);
        Due.is("the rest of today", x.ahead(1, 0), 3);
        Due.is("crop", x.cell(0, 0) * 10 + x.cell(1, 0), 12);
        Due.is("the rest and a day", x.ahead(2, 1), 3);
    }

    private static void clash() {
        CrowRota x = Due.of("scare al 0 0 1 1 1;scare bo 0 0 1 1 1;flap al 0 3;flap bo 2 5;most 2;");
        Due.is("hour", x.clash(0), 2);
        Due.is("scare", x.clash(1), 0);
        Due.is("what 2", x.clash(2), NONE);
        Due.is("what -1", x.clash(-1), NONE);
        x.strike(0, true);
        Due.is("hour with al on strike", x.clash(0), 4);
        Due.is("scare with al on strike", x.clash(1), 1);
        x.strike(0, false);
        x.go(3);
        Due.is("hour from 3 on", x.clash(0) * 10 + x.clash(1), 30);
        x.go(1);
        Due.is("hour from 4 on", x.clash(0) * 10 + x.clash(1), 41);
        x.go(2);
        Due.is("none from 6 on", x.clash(0), -2);
        Due.is("none from 6 on", x.clash(1), -2);
        Due.is("what 2", x.clash(2), NONE);
        x.flap(1, 11, true);
        Due.is("the last hour", x.clash(0), 11);
        CrowRota y = Due.of("scare al 0 0 1 1 1;scare bo 0 0 1 1 1;flap bo 7 7;most 0;");
        Due.is("most 0", y.clash(0) * 10 + y.clash(1), 71);
        Due.is("without any", new CrowRota().clash(1), -2);
    }

    private static void keeping() {
        CrowRota x = Due.of("field 1 1;crop 0 0 99;crows 9;scare al 0 0 0 1 1;flap al 0 11;");
        Due.is("three hours", x.keeping(0, 1, 0), 7);
        Due.is("eaten", x.keeping(0, 1, 1), 81);
        Due.is("two days: all is eaten", x.keeping(0, 2, 0), 0);
        Due.is("two days: all is eaten", x.keeping(0, 2, 1), 99);
        Due.is("rota stays", x.scare(0, 4), 4095);
        Due.is("no days", x.keeping(0, 0, 0), NONE);
        Due.is("four days", x.keeping(0, 4, 0), NONE);
        Due.is("no scare", x.keeping(1, 1, 0), NONE);
        Due.is("scare -1", x.keeping(-1, 1, 0), NONE);
        Due.is("what 2", x.keeping(0, 1, 2), NONE);
        Due.is("what -1", x.keeping(0, 1, -1), NONE);
        CrowRota y = Due.of("field 1 1;crop 0 0 99;crows 4;scare al 0 0 0 1 1;most 2;");
        Due.is("as many as most", y.keeping(0, 1, 0), 3);
        Due.is("as many as most", y.keeping(0, 1, 1), 40);
        Due.is("two days", y.keeping(0, 2, 1), 80);
        y.go(5);
        Due.is("from hour 5 on", y.keeping(0, 1, 0), 96);
        Due.is("from hour 5 on", y.keeping(0, 1, 1), 20);
        y.strike(0, true);
        Due.is("on strike it keeps nothing", y.keeping(0, 1, 0), 0);
        CrowRota w = Due.of("field 1 1;crop 0 0 99;crows 1;scare al 0 0 0 1 1;law see grade;");
        Due.is("seen by grade", w.keeping(0, 1, 1), 9);
        w.hat(0, 0);
        Due.is("no more", w.keeping(0, 1, 1), 12);
        w.undo();
        Due.is("again", w.keeping(0, 1, 1), 9);
        CrowRota z = Due.of("field 1 1;scare al 0 0 0 1 1;most 0;");
        Due.is("most 0", z.keeping(0, 1, 0), 0);
        Due.is("most 0", z.keeping(0, 1, 1), 10);
    }

    private static void allSeen() {
        CrowRota x = Due.of("field 4 1;scare al 0 0 1 1 1;scare bo 3 0 1 1 1;scare ce 1 0 2 1 1;");
        Due.is("one", x.allSeen(), 4);
        CrowRota y = Due.of("field 4 1;scare al 0 0 1 1 1;scare bo 3 0 1 1 1;scare ce 2 0 1 1 1;scare de 3 0 1 1 1;");
        Due.is("the least of two", y.allSeen(), 3);
        Due.is("on strike as well", y.strike(1, true) ? y.allSeen() : 0, 3);
        CrowRota z = Due.of("field 4 1;scare al 0 0 1 1 1;crop 3 0 0;");
        Due.is("not by all", z.allSeen(), -2);
        CrowRota w = Due.of("field 4 1;scare al 0 0 1 1 1;crop 3 0 0;crop 2 0 0;");
        Due.is("only where crop is", w.allSeen(), 1);
        CrowRota v = Due.of("field 1 1;crop 0 0 0;");
        Due.is("no crop", v.allSeen(), 0);
    }

    private static void oneMore() {
        CrowRota x = Due.of("field 4 1;crop 0 0 1;crop 1 0 2;crop 2 0 3;crop 3 0 9;scare al 3 0 0 1 5;flap al 0 0;");
        Due.is("cell", x.oneMore(0, 0), 2);
        Due.is("crop", x.oneMore(0, 1), 3);
        Due.is("first of several", x.oneMore(1, 0), 1);
        Due.is("crop", x.oneMore(1, 1), 6);
        x.strike(0, true);
        Due.is("on the rota, though on strike", x.oneMore(0, 0), 2);
        x.flap(0, 0, false);
        Due.is("not on the rota", x.oneMore(0, 0), 3);
        Due.is("sight 9", x.oneMore(9, 1), 15);
        Due.is("sight 9", x.oneMore(9, 0), 0);
        Due.is("sight 10", x.oneMore(10, 0), NONE);
        Due.is("sight -1", x.oneMore(-1, 0), NONE);
        Due.is("what 2", x.oneMore(0, 2), NONE);
        Due.is("what -1", x.oneMore(0, -1), NONE);
        CrowRota y = Due.of("field 3 1;scare al 0 0 0 1 5;law see far=sight and grade=0;");
        Due.is("grade 0, by law", y.oneMore(1, 0) * 100 + y.oneMore(1, 1), 120);
        CrowRota z = Due.of("field 1 1;crop 0 0 0;");
        Due.is("nothing to see", z.oneMore(5, 0) * 10 + z.oneMore(5, 1), 0);
    }

    private static void costs() {
        CrowRota x = Due.of("field 1 1;crop 0 0 99;crows 2;scare al 0 0 0 4 1;scare bo 0 0 0 1 1;flap al 0 2;flap bo 2 2;");
        // without al hours 0 and 1 are open: 2 each; on day 1 at these hours they'd expect nobody
        Due.is("eaten more", x.costs(0, 1, 0), 4);
        Due.is("spent less", x.costs(0, 1, 1), 12);
        Due.is("eaten more in two days", x.costs(0, 2, 0), 8);
        Due.is("bo alone makes nothing", x.costs(1, 1, 0), 0);
        x.strike(0, true);
        Due.is("as well if it is on strike", x.costs(0, 1, 0), 4);
        Due.is("it stays so", x.scare(0, 5), 1);
        Due.is("no days", x.costs(0, 0, 0), NONE);
        Due.is("ten days", x.costs(0, 10, 0), NONE);
        Due.is("no scare", x.costs(2, 1, 0), NONE);
        Due.is("scare -1", x.costs(-1, 1, 0), NONE);
        Due.is("what 2", x.costs(0, 1, 2), NONE);
        Due.is("what -1", x.costs(0, 1, -1), NONE);
        // scared at hour 0 they'd eat all of it at hour 1
        CrowRota y = Due.of("field 1 1;crop 0 0 8;law eat hour*8;scare al 0 0 0 4 1;flap al 0 0;");
        Due.is("nothing more", y.costs(0, 1, 0), 0);
        // who is seen at hour 0 makes them come to cell 1 a day on, of which they eat
        CrowRota z = Due.of("field 2 1;crop 0 0 9;crop 1 0 8;law eat (hour=0)*(ripe=8)*8;scare al 0 0 0 4 1;flap al 0 0;");
        Due.is("as it goes", z.ahead(2, 0), 8);
        Due.is("never below 0", z.costs(0, 2, 0), 0);
        Due.is("spent less", z.costs(0, 2, 1), 8);
    }

    private static void both() {
        CrowRota x = Due.of("field 4 1;crop 1 0 7;crop 2 0 5;scare al 0 0 2 1 1;scare bo 3 0 2 1 1;flap al 0 4;flap bo 3 9;");
        Due.is("hours", x.both(0, 1, 0), 24);
        Due.is("crop", x.both(1, 0, 1), 12);
        Due.is("alike", x.both(0, 0, 0), NONE);
        Due.is("no one", x.both(2, 0, 0), NONE);
        Due.is("no other", x.both(0, 2, 0), NONE);
        Due.is("-1", x.both(-1, 0, 1), NONE);
        Due.is("what 2", x.both(0, 1, 2), NONE);
        Due.is("what -1", x.both(0, 1, -1), NONE);
    }

    private static void expects() {
        CrowRota x = Due.of("field 3 1;crop 1 0 0;scare al 0 0 0 1 1;flap al 2 3;crows 1;");
        Due.is("at first everywhere with crop", x.expects(2), 5);
        x.go(3);
        Due.is("kept of today", x.expects(2), 4);
        Due.is("hour 3 still comes", x.expects(3), 5);
        x.go(1);
        Due.is("hour 3 went by", x.expects(3), 4);
        Due.is("hour 11", x.expects(11), 5);
        Due.is("hour 12", x.expects(12), NONE);
        Due.is("hour -1", x.expects(-1), NONE);
    }

    private static void idle() {
        CrowRota x = Due.of("field 3 1;crop 1 0 0;scare al 0 0 0 1 1;scare bo 1 0 0 1 1;scare ce 1 0 1 1 1;law see far<=sight and hour<>1;");
        Due.is("idle", x.idle(), 2);
        x.go(1);
        Due.is("all idle", x.idle(), 7);
        Due.is("none there", new CrowRota().idle(), 0);
    }

    private static void is(CrowRota x, String call, int a, int b, int c, int d, int[] want) {
        for (int what = 0; what < 4; what++) {
            Due.is(call + " " + what, x.lot(a, b, c, d, what), want[what]);
        }
    }

    private static void lot() {
        CrowRota x = Due.of("field 4 1;crop 0 0 9;crop 3 0 3;scare al 0 0 0 1 1;scare bo 3 0 0 1 1;scare ce 1 0 1 1 1;crows 6;");
        // al: 0, 3; bo: 6, 0
        is(x, "al bo 0 3", 0, 1, 0, 3, new int[] {2, 3, 2, 1});
        is(x, "bo al 0 3", 1, 0, 0, 3, new int[] {1, 3, 2, 1});
        // al: 0, 6; ce: 0, 0: ce is sure, and al is as well where crows come to 0, but they'd gain by 1 then
        is(x, "al ce 0 1", 0, 2, 0, 1, new int[] {0, 1, 0, 1});
        // al: 6, 6; bo: 6, 6: the first pair
        is(x, "al bo 1 2", 0, 1, 1, 2, new int[] {1, 1, 6, 1});
        is(x, "bo al 2 1", 1, 0, 2, 1, new int[] {1, 1, 6, 1});
        Due.is("what 4", x.lot(0, 1, 0, 3, 4), NONE);
        Due.is("what -1", x.lot(0, 1, 0, 3, -1), NONE);
        Due.is("no one", x.lot(3, 1, 0, 3, 0), NONE);
        Due.is("no other", x.lot(0, -1, 0, 3, 0), NONE);
        Due.is("no cell", x.lot(0, 1, 4, 3, 0), NONE);
        Due.is("no other cell", x.lot(0, 1, 0, -1, 0), NONE);
        Due.is("alike scares", x.lot(1, 1, 0, 3, 0), NONE);
        Due.is("alike cells", x.lot(0, 1, 3, 3, 0), NONE);
        CrowRota y = Due.of("field 2 1;crop 0 0 9;crop 1 0 9;scare al 0 0 0 1 1;scare bo 1 0 0 1 1;law eat 200;");
        is(y, "no more than crop", 0, 1, 0, 1, new int[] {1, 2, 9, 2});
    }

    private static void share() {
        CrowRota x = Due.of("scare al 0 0 0 1 0;scare bo 0 0 0 1 0;scare ce 0 0 0 1 0;scare de 0 0 0 1 9;");
        // 13 parts: of 5 these are 5/13 and 50/13, of 6 they are 6/13 and 60/13
        for (int i = 0; i < 4; i++) {
            Due.is("none", x.share(0, i), 0);
            Due.is("5, " + i, x.share(5, i), new int[] {1, 0, 0, 4}[i]);
            Due.is("6, " + i, x.share(6, i), new int[] {1, 0, 0, 5}[i]);
            Due.is("13, " + i, x.share(13, i), i < 3 ? 1 : 10);
        }
        Due.is("9999", x.share(9999, 0) + x.share(9999, 1) + x.share(9999, 2) + x.share(9999, 3), 9999);
        Due.is("10000", x.share(10000, 0), NONE);
        Due.is("-1", x.share(-1, 0), NONE);
        Due.is("no scare", x.share(1, 4), NONE);
        Due.is("scare -1", x.share(1, -1), NONE);
        x.hat(3, 0);
        Due.is("alike: the first ones", x.share(6, 0) * 1000 + x.share(6, 1) * 100 + x.share(6, 2) * 10 + x.share(6, 3), 2211);
        Due.is("nobody", new CrowRota().share(5, 0), NONE);
    }
}
