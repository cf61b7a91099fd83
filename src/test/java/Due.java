/** What the tests share: answers that are due, TEXTS that are fed, and the end of a test. */
final class Due {
    private static int wrong = 0;
    private static int asked = 0;

    private Due() {
    }

    static void is(String call, long got, long want) {
        asked++;
        if (got != want) {
            wrong++;
            System.out.println(call + " answered " + got + ", due is " + want);
        }
    }

    static void is(String call, boolean got, boolean want) {
        is(call, got ? 1 : 0, want ? 1 : 0);
    }

    /** Feeds the bytes of a TEXT with blanks behind it, twenty by twenty. */
    static void feed(CrowRota x, String text) {
        for (int at = 0; at < text.length(); at += 20) {
            int[] five = new int[5];
            for (int k = 0; k < 20; k++) {
                int sign = at + k < text.length() ? text.charAt(at + k) & 255 : ' ';
                five[k / 4] |= sign << 24 - k % 4 * 8;
            }
            x.feed(five[0], five[1], five[2], five[3], five[4]);
        }
    }

    /** Feeds a TEXT and has it read. */
    static int text(CrowRota x, String text) {
        feed(x, text);
        return x.text(text.length());
    }

    /** A new object with this TEXT, which must be right. */
    static CrowRota of(String text) {
        CrowRota x = new CrowRota();
        int lines = 0;
        for (int i = 0; i < text.length(); i++) {
            lines += text.charAt(i) == ';' ? 1 : 0;
        }
        is("text of " + text, text(x, text), lines);
        return x;
    }

    /** A new object reads this TEXT, all its bytes; the FAULT and its place are due behind it. */
    static void wrong(String text, int fault, int place) {
        CrowRota x = new CrowRota();
        is("text " + text, text(x, text), CrowRota.NONE);
        is("fault(0) of " + text, x.fault(0), fault);
        is("fault(1) of " + text, x.fault(1), place);
        is("tape of " + text, x.text(1), -2);
    }

    /** A new object reads this TEXT, all its bytes, without a FAULT; the object. */
    static CrowRota right(String text, int lines) {
        CrowRota x = new CrowRota();
        is("text " + text, text(x, text), lines);
        is("fault(0) of " + text, x.fault(0), 0);
        is("fault(1) of " + text, x.fault(1), CrowRota.NONE);
        return x;
    }

    static String times(String part, int n) {
        StringBuilder all = new StringBuilder();
        for (int i = 0; i < n; i++) {
            all.append(part);
        }
        return all.toString();
    }

    /** What cell() answers; 1000 if it throws IndexOutOfBoundsException, 2000 if NoSuchElementException. */
    static int cell(CrowRota x, int cell, int what) {
        try {
            return x.cell(cell, what);
        } catch (IndexOutOfBoundsException e) {
            return e.getClass() == IndexOutOfBoundsException.class ? 1000 : 3000;
        } catch (java.util.NoSuchElementException e) {
            return e.getClass() == java.util.NoSuchElementException.class ? 2000 : 4000;
        }
    }

    /** The letters of a word as named() takes them. */
    static int letters(String word) {
        int packed = 0;
        for (int i = 0; i < 6; i++) {
            packed = packed * 32 + (i < word.length() ? word.charAt(i) - 'a' + 1 : 0);
        }
        return packed;
    }

    static void end() {
        System.out.println(asked + " answers, " + wrong + " of them not as due");
        if (wrong != 0) {
            System.exit(1);
        }
    }
}
