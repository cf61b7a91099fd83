/** Promise 1: a new object; 2: feed; 3: text's answers. */
public final class NewTest {
    public static void main(String[] args) {
        CrowRota x = new CrowRota();
        int[] due = {5, 4, 0, 0, 0, 0, 0, 0, 200, 0, 0, 0, 0, 0, 0, 0};
        for (int what = 0; what < due.length; what++) {
            Due.is("new count(" + what + ")", x.count(what), due[what]);
        }
        Due.is("empty tape", x.text(1), -2);
        for (int i = 1; i <= 35; i++) {
            Due.is("feed " + i, x.feed(0x20202020, 0x20202020, 0x20202020, 0x20202020, 0x20202020), 20 * i);
        }
        Due.is("feed too much", x.feed(0, 0, 0, 0, 0), CrowRota.NONE);
        Due.is("text(-1)", x.text(-1), -2);
        Due.is("text(701)", x.text(701), -2);
        Due.is("text(700)", x.text(700), 0);
        Due.is("text(1)", x.text(1), -2);
        Due.end();
    }
}
