import java.util.ArrayList;
import java.util.List;

/**
 * A call that is refused changes nothing that later calls show, nor does a question: of two objects that went alike, one is
 * asked something, and then both answer all else alike, down to what can be undone, the IMAGE, the NOTES and the TAPE.
 */
public final class RefusedTest {
    private static final int NONE = CrowRota.NONE;
    private static final int LEAST = Integer.MIN_VALUE;
    private static final int MOST = Integer.MAX_VALUE;
    private static final long ERROR = Long.MIN_VALUE;

    private interface Call {
        long of(CrowRota x);
    }

    /** How an object came to be where it is. */
    private interface Way {
        CrowRota go();
    }

    private static final String TOLD = "field 2 2;crop 0 0 60;crop 1 1 40;scare al 0 0 0 2 3;scare bo 1 1 1 4 5;scare ce 1 0 0 6 7;"
        + "flap al 1 5;flap bo 0 11;most 4;crows 2;wind 0;wind 3;wind 8;gust 8;law pay grade+1;law eat hour-3*date;";

    private final String name;
    private final Way way;
    private final List<Long> due;

    private RefusedTest(String name, Way way) {
        this.name = name;
        this.way = way;
        due = print(way.go());
    }

    public static void main(String[] args) {
        RefusedTest[] all = {new RefusedTest("new", CrowRota::new), new RefusedTest("some", RefusedTest::some),
            new RefusedTest("full", RefusedTest::full), new RefusedTest("late", RefusedTest::late)};
        for (RefusedTest test : all) {
            test.wrongNumbers();
            test.wrongAsked();
            test.questions();
        }
        RefusedTest some = all[1];
        some.soAlready();
        some.faults();
        all[0].nothingThere();
        all[2].asMuchAsMayBe();
        all[3].beyondTheLastDay();
        Due.end();
    }

    /** In the midst of DAY 1, with some of everything. */
    private static CrowRota some() {
        CrowRota x = new CrowRota();
        Due.text(x, TOLD);
        x.go(3);
        x.hat(2, 1);
        x.keep();
        x.go(14);
        x.note(1, 0, 60, true);
        x.note(5, 3, 39, false);
        x.out(0);
        x.note(9, 0, 59, true);
        x.known(3);
        x.hat(0, 9);
        x.strike(1, true);
        x.flap(2, 6, true);
        x.hat(0, 8);
        Due.text(x, "most 1;  most 2;");
        Due.feed(x, "wind 7;wind 8;!");
        return x;
    }

    /** With as many NOTES, bytes and calls that can be undone as there may be. */
    private static CrowRota full() {
        CrowRota x = new CrowRota();
        Due.text(x, TOLD);
        x.go(5);
        x.keep();
        for (int k = 0; k < 12; k++) {
            x.note(1 + k, 0, 60 - k, true);
            x.out(2 * k);
        }
        x.out(23);
        for (int k = 0; k < 21; k++) {
            x.hat(k % 3, (k + 4) % 10);
        }
        Due.feed(x, "field 1 1;wind 7;wind 8;" + Due.times(" ", 676));
        return x;
    }

    /** In the last HOUR of all. */
    private static CrowRota late() {
        CrowRota x = new CrowRota();
        Due.text(x, TOLD);
        x.note(3, 0, 60, true);
        for (int k = 0; k < 121; k++) {
            x.go(99);
        }
        x.keep();
        x.go(20);
        x.hat(1, 0);
        return x;
    }

    private static void add(List<Long> all, long... answers) {
        for (long answer : answers) {
            all.add(answer);
        }
    }

    /** All that later calls show, in so few that no object is used for more than 512. */
    private static List<Long> print(CrowRota x) {
        List<Long> all = new ArrayList<>();
        state(x, all);
        asked(x, all);
        for (int left = 0; left <= 21 && left != NONE;) {
            left = x.undo();
            add(all, left, x.count(12));
        }
        for (int i = 0; i < 3; i++) {
            add(all, x.scare(i, 3), x.scare(i, 4), x.scare(i, 5));
        }
        notes(x, all);
        add(all, x.back());
        state(x, all);
        add(all, x.go(7), x.count(9), x.count(10), x.count(11), x.back(), x.fault(0), x.fault(1));
        tape(x, all);
        return all;
    }

    private static void state(CrowRota x, List<Long> all) {
        for (int what = 0; what < 16; what++) {
            add(all, x.count(what));
        }
        for (int cell = 0; cell <= 4; cell++) {
            add(all, Due.cell(x, cell, 0), Due.cell(x, cell, 1), Due.cell(x, cell, 2));
        }
        for (int i = 0; i < 3; i++) {
            for (int what = 0; what < 8; what++) {
                add(all, x.scare(i, what));
            }
            add(all, x.sees(i, 0), x.sees(i, 1), x.sees(i, 3), x.law(0, i, 3), x.law(2, i, 0));
        }
        for (int hour = 0; hour < 12; hour++) {
            add(all, x.expects(hour));
        }
    }

    private static void asked(CrowRota x, List<Long> all) {
        add(all, x.wind(0), x.wind(1), x.wind(2), x.wind(3), x.law(1, 0, 0), x.named(Due.letters("bo")));
        add(all, x.ahead(1, 0), x.ahead(2, 1), x.ahead(9, 2), x.clash(0), x.clash(1), x.keeping(0, 1, 0), x.keeping(1, 2, 1));
        add(all, x.allSeen(), x.oneMore(1, 0), x.oneMore(0, 1), x.costs(0, 2, 0), x.costs(1, 2, 1), x.both(0, 1, 0));
        add(all, x.both(0, 1, 1), x.idle(), x.lot(0, 1, 0, 3, 0), x.lot(0, 1, 0, 3, 3), x.share(17, 0), x.share(17, 2));
        add(all, x.chance(5, 2, 9), x.chance(5, 2, 60));
        for (int what = 0; what < 6; what++) {
            add(all, x.tried(what, 0, 2));
        }
    }

    private static void notes(CrowRota x, List<Long> all) {
        add(all, x.count(13), x.count(14), x.fits(0), x.fits(1));
        int known = x.count(14);
        add(all, x.note(2, 0, 60, false), x.count(14) - known);
        for (int n = -1; n <= 24; n++) {
            add(all, x.known(n) ? 1 : 0, x.fits(0));
        }
    }

    private static void tape(CrowRota x, List<Long> all) {
        int bytes = x.feed(0x20202020, 0x20202020, 0x20202020, 0x20202020, 0x20202020);
        add(all, bytes, x.text(bytes == NONE ? 701 : bytes + 1), x.text(bytes == NONE ? 700 : bytes));
        add(all, x.fault(0), x.fault(1));
        for (int what = 0; what < 16; what++) {
            add(all, x.count(what));
        }
    }

    /** The call has this answer, and all else is as without it. */
    private void alike(String call, Call asked, long answer) {
        CrowRota x = way.go();
        Due.is(name + ": " + call, asked.of(x), answer);
        same(call, x);
    }

    private void same(String call, CrowRota x) {
        List<Long> got = print(x);
        Due.is(name + ": answers behind " + call, got.size(), due.size());
        for (int k = 0; k < got.size() && k < due.size(); k++) {
            Due.is(name + ": answer " + k + " behind " + call, got.get(k), due.get(k));
        }
    }

    private static int is(boolean yes) {
        return yes ? 1 : 0;
    }

    private void wrongNumbers() {
        int[] scares = {-1, 3, 6, LEAST, MOST};
        for (int wrong : scares) {
            alike("flap of " + wrong, x -> is(x.flap(wrong, 0, true)), 0);
            alike("flap of " + wrong + " no more", x -> is(x.flap(wrong, 0, false)), 0);
            alike("strike of " + wrong, x -> is(x.strike(wrong, true)), 0);
            alike("strike of " + wrong + " no more", x -> is(x.strike(wrong, false)), 0);
            alike("hat of " + wrong, x -> is(x.hat(wrong, 1)), 0);
            alike("keeping of " + wrong, x -> x.keeping(wrong, 1, 0), NONE);
            alike("costs of " + wrong, x -> x.costs(wrong, 1, 0), NONE);
            alike("both of " + wrong, x -> x.both(wrong, 0, 0), NONE);
            alike("fits of " + wrong, x -> x.fits(wrong), NONE);
            alike("share of " + wrong, x -> x.share(5, wrong), NONE);
            alike("without " + wrong, x -> x.tried(2, wrong, 1), NONE);
            alike("lot of " + wrong, x -> x.lot(0, wrong, 0, 1, 0), NONE);
        }
        int[] hours = {-1, 12, LEAST, MOST};
        for (int wrong : hours) {
            alike("flap at " + wrong, x -> is(x.flap(0, wrong, true)), 0);
            alike("flap at " + wrong + " no more", x -> is(x.flap(0, wrong, false)), 0);
            alike("expects at " + wrong, x -> x.expects(wrong), NONE);
        }
        int[] grades = {-1, 10, LEAST, MOST};
        for (int wrong : grades) {
            alike("hat " + wrong, x -> is(x.hat(0, wrong)), 0);
            alike("one more of sight " + wrong, x -> x.oneMore(wrong, 0), NONE);
        }
        int[] numbers = {-1, 100, LEAST, MOST};
        for (int wrong : numbers) {
            alike("go(" + wrong + ")", x -> x.go(wrong), NONE);
            alike("note of crop " + wrong, x -> x.note(1, 0, wrong, true), NONE);
        }
        int[] cells = {-1, 30, LEAST, MOST};
        for (int wrong : cells) {
            alike("note of cell " + wrong, x -> x.note(1, wrong, 0, true), NONE);
            alike("cell " + wrong, x -> Due.cell(x, wrong, 0), 1000);
            alike("law of cell " + wrong, x -> x.law(1, 0, wrong), ERROR);
        }
        int[] after = {0, 49, LEAST, MOST};
        for (int wrong : after) {
            alike("note of hours " + wrong, x -> x.note(wrong, 0, 0, true), NONE);
        }
        int[] notes = {-1, 24, LEAST, MOST};
        for (int wrong : notes) {
            alike("out of " + wrong, x -> x.out(wrong), NONE);
        }
        int[] known = {-2, 25, LEAST, MOST};
        for (int wrong : known) {
            alike("known by " + wrong, x -> is(x.known(wrong)), 0);
        }
    }

    private void wrongAsked() {
        int[] bytes = {-1, 701, LEAST, MOST};
        for (int wrong : bytes) {
            alike("text(" + wrong + ")", x -> x.text(wrong), -2);
        }
        int[] days = {0, 10, -1, LEAST, MOST};
        for (int wrong : days) {
            alike("ahead " + wrong, x -> x.ahead(wrong, 0), NONE);
            alike("chance in " + wrong, x -> x.chance(5, wrong, 0), NONE);
            alike("tried in " + wrong, x -> x.tried(3, 0, wrong), NONE);
            alike("keeping in " + wrong, x -> x.keeping(0, wrong, 0), NONE);
            alike("costs in " + wrong, x -> x.costs(0, wrong, 0), NONE);
        }
        int[] whats = {-1, 16, LEAST, MOST};
        for (int wrong : whats) {
            alike("cell, what " + wrong, x -> Due.cell(x, 0, wrong), 2000);
            alike("fault, what " + wrong, x -> x.fault(wrong), NONE);
            alike("scare, what " + wrong, x -> x.scare(0, wrong), NONE);
            alike("ahead, what " + wrong, x -> x.ahead(1, wrong), NONE);
            alike("clash, what " + wrong, x -> x.clash(wrong), NONE);
            alike("keeping, what " + wrong, x -> x.keeping(0, 1, wrong), NONE);
            alike("one more, what " + wrong, x -> x.oneMore(1, wrong), NONE);
            alike("costs, what " + wrong, x -> x.costs(0, 1, wrong), NONE);
            alike("both, what " + wrong, x -> x.both(0, 1, wrong), NONE);
            alike("lot, what " + wrong, x -> x.lot(0, 1, 0, 1, wrong), NONE);
            alike("tried, what " + wrong, x -> x.tried(wrong, 0, 1), NONE);
            alike("count, what " + wrong, x -> x.count(wrong), NONE);
            alike("law, what " + wrong, x -> x.law(wrong, 0, 0), ERROR);
        }
        alike("seed -1", x -> x.chance(-1, 1, 0), NONE);
        alike("bound -1", x -> x.chance(1, 1, -1), NONE);
        alike("bound 10000", x -> x.chance(1, 1, 10000), NONE);
        alike("turnips -1", x -> x.share(-1, 0), NONE);
        alike("turnips 10000", x -> x.share(10000, 0), NONE);
        alike("day -1", x -> x.wind(-1), NONE);
        alike("day 1000", x -> x.wind(1000), NONE);
    }

    /** Questions that are answered leave all as it is. */
    private void questions() {
        CrowRota y = way.go();
        Call[] calls = {x -> x.go(0) - x.count(6), x -> x.ahead(9, 0) - x.ahead(9, 0), x -> x.clash(0) - x.clash(0),
            x -> x.keeping(0, 3, 0) - x.keeping(0, 3, 0), x -> x.allSeen() - x.allSeen(), x -> x.oneMore(9, 1) - x.oneMore(9, 1),
            x -> x.costs(1, 9, 0) - x.costs(1, 9, 0), x -> x.lot(0, 2, 1, 3, 2) - x.lot(0, 2, 1, 3, 2), x -> x.idle() - x.idle(),
            x -> x.share(9999, 0) - x.share(9999, 0), x -> x.fits(2) - x.fits(2), x -> x.chance(9, 9, 50) - x.chance(9, 9, 50),
            x -> x.fault(1) - x.fault(1), x -> x.count(8) - x.count(8), x -> x.both(0, 1, 1) - x.both(0, 1, 1)};
        for (int k = 0; k < calls.length; k++) {
            alike("question " + k, calls[k], 0);
        }
        for (int k = 0; k < 6; k++) {
            int what = k;
            alike("tried " + what, x -> x.tried(what, 0, 9) - x.tried(what, 0, 9), 0);
        }
        for (Call call : calls) {
            call.of(y);
        }
        same("all questions", y);
    }

    /** "it is so" */
    private void soAlready() {
        alike("flap as it is", x -> is(x.flap(0, 1, true)), 0);
        alike("flap as it was set", x -> is(x.flap(2, 6, true)), 0);
        alike("no flap as it is", x -> is(x.flap(0, 0, false)), 0);
        alike("strike as it is", x -> is(x.strike(1, true)), 0);
        alike("no strike as it is", x -> is(x.strike(0, false)), 0);
        alike("hat as it is", x -> is(x.hat(1, 5)), 0);
        alike("hat as it was set", x -> is(x.hat(0, 8)), 0);
        alike("out of the next", x -> x.out(x.count(13)), NONE);
        alike("known by one too many", x -> is(x.known(x.count(13) + 1)), 0);
        alike("known as it is", x -> is(x.known(3)), 1);
        alike("text of one too many", x -> x.text(21), -2);
        alike("cell 4", x -> Due.cell(x, 4, 0), 1000);
        alike("note of cell 4", x -> x.note(1, 4, 0, true), NONE);
        alike("lot of alike scares", x -> x.lot(1, 1, 0, 1, 0), NONE);
        alike("lot of alike cells", x -> x.lot(0, 1, 2, 2, 0), NONE);
        alike("both of alike scares", x -> x.both(2, 2, 0), NONE);
        alike("a call and its undoing", x -> is(x.hat(2, 9)) + x.undo(), 5);
        alike("a strike and its undoing", x -> is(x.strike(1, false)) + x.undo(), 5);
        alike("a flap and its undoing", x -> is(x.flap(0, 2, false)) + x.undo(), 5);
    }

    private void nothingThere() {
        alike("undo", x -> x.undo(), NONE);
        alike("back", x -> x.back(), NONE);
        alike("text(1)", x -> x.text(1), -2);
        alike("out(0)", x -> x.out(0), NONE);
        alike("known(1)", x -> is(x.known(1)), 0);
        alike("scare(0, 0)", x -> x.scare(0, 0), NONE);
        alike("known(-1)", x -> is(x.known(-1)), 1);
        alike("text(0)", x -> x.text(0), 0);
    }

    private void asMuchAsMayBe() {
        alike("a 25th note", x -> x.note(1, 0, 0, false), NONE);
        alike("a 25th that strikes", x -> x.out(0), NONE);
        alike("bytes beyond 700", x -> x.feed(1, 2, 3, 4, 5), NONE);
    }

    private void beyondTheLastDay() {
        for (int n = 1; n <= 99; n += 49) {
            int hours = n;
            alike("go(" + n + ")", x -> x.go(hours), NONE);
        }
    }

    /** "NONE with a FAULT, all else stays": but for the TAPE, which is empty then, and the FAULT. */
    private void faults() {
        String[] texts = {"!", "field 1 1;crop 0 0 0;scare bo 0 0 1 1 1;scare bo", "wind 1;wind 2;most 0;gust 0;crows 0;law pay 9",
            "scare x 0 0 9 9 9;scare y 0 0 9 9 9;scare z 0 0 9 9 9;scare w 0 0 9 9 9;flap x 0 11;flap q 0 1;",
            "law see 0;law eat 0;law pay 1+", "crop 0 0 1;crop 1 0 2;crop 0 1 3;crop 1 1 4;crop 1 1 5;", "seed 100000;",
            "field 6 5;" + Due.times("wind 9;", 14) + "wind 9;", "law see " + Due.times("not ", 65) + "1;"};
        for (String text : texts) {
            CrowRota x = some();
            CrowRota y = some();
            x.text(20);
            y.text(20);
            Due.is("text of the TAPE", x.fault(0) * 100 + x.fault(1), 114);
            Due.is(text, Due.text(x, text), NONE);
            Due.is("the TAPE is empty", x.text(1), -2);
            Due.is("!", Due.text(x, "!"), NONE);
            Due.is("!", Due.text(y, "!"), NONE);
            List<Long> got = print(x);
            List<Long> want = print(y);
            for (int k = 0; k < want.size(); k++) {
                Due.is("answer " + k + " behind " + text, got.get(k), want.get(k));
            }
        }
    }
}
