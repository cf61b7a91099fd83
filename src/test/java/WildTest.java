import java.lang.reflect.InvocationTargetException;
import java.lang.reflect.Method;
import java.lang.reflect.Modifier;
import java.util.ArrayList;
import java.util.Comparator;
import java.util.List;
import java.util.NoSuchElementException;
import java.util.Random;

/** Numbers and TEXTS by lot (always the same ones): no call throws but cell(), and that what the document says. */
public final class WildTest {
    private static final String[] TOKENS = {"field", "crop", "scare", "flap", "most", "crows", "wind", "gust", "seed", "law",
        "see", "eat", "pay", "or", "and", "not", "sight", "far", "hour", "grade", "ripe", "date", "(", ")", "<", "<=", "=", "<>",
        ">=", ">", "+", "-", "*", "/", ";", ";", ";", "0", "1", "2", "3", "5", "6", "9", "11", "12", "99", "9999", "10000", "a",
        "bo", "zzzzzz", "zzzzzzz", "#", "<>=", "4294967296"};
    private static final String TOLD = "field 6 5;crop 5 4 99;crop 0 0 60;scare a 5 4 9 9 9;scare bo 0 0 0 0 0;scare c 2 2 2 2 2;"
        + "scare d 3 3 3 3 3;scare e 5 0 1 1 1;scare f 0 4 4 4 4;flap a 0 11;flap bo 3 9;flap f 11 11;most 4;crows 9;wind 3;wind 9;"
        + "gust 5;seed 8;law see far<=sight+wind/3 or ripe>50/(hour-3);law eat ripe/7*(grade+2);law pay 1000*1000*1000*1000/(date-1);";

    private final Random r;

    private WildTest(int seed) {
        r = new Random(seed);
    }

    public static void main(String[] args) {
        List<Method> calls = new ArrayList<>();
        for (Method m : CrowRota.class.getDeclaredMethods()) {
            if (Modifier.isPublic(m.getModifiers())) {
                calls.add(m);
            }
        }
        calls.sort(Comparator.comparing(Method::getName));
        Due.is("calls", calls.size(), 34);
        for (int seed = 0; seed < 150; seed++) {
            new WildTest(seed).wild(calls);
        }
        Due.end();
    }

    private int number() {
        switch (r.nextInt(9)) {
            case 0:
                return r.nextInt();
            case 1:
                return r.nextBoolean() ? Integer.MIN_VALUE : Integer.MAX_VALUE;
            case 2:
                return -1 - r.nextInt(3);
            case 3:
                return r.nextInt(100);
            case 4:
                return r.nextInt(32);
            default:
                return r.nextInt(7);
        }
    }

    /** A TEXT of TOKENS by lot, or a right one, of which a sign may be otherwise. */
    private String text() {
        StringBuilder all = new StringBuilder();
        if (r.nextInt(3) == 0) {
            for (int k = r.nextInt(60); k > 0; k--) {
                all.append(TOKENS[r.nextInt(TOKENS.length)]).append(r.nextInt(4) == 0 ? "" : " ");
            }
        } else {
            all.append(TOLD);
            for (int k = r.nextInt(3); k > 0; k--) {
                all.setCharAt(r.nextInt(all.length()), TOLD.charAt(r.nextInt(TOLD.length())));
            }
            if (r.nextInt(4) == 0) {
                all.setCharAt(r.nextInt(all.length()), (char) r.nextInt(256));
            }
        }
        return all.length() > 700 ? all.substring(0, 700) : all.toString();
    }

    private void wild(List<Method> calls) {
        CrowRota x = new CrowRota();
        Due.feed(x, TOLD);
        x.text(TOLD.length());
        int used = 40;
        while (used < 480) {
            if (r.nextInt(60) == 0) {
                String text = text();
                Due.feed(x, text);
                x.text(r.nextInt(5) == 0 ? number() : text.length());
                used += text.length() / 20 + 2;
            } else {
                call(x, calls.get(r.nextInt(calls.size())));
                used++;
            }
        }
    }

    private void call(CrowRota x, Method m) {
        Object[] with = new Object[m.getParameterCount()];
        StringBuilder all = new StringBuilder(m.getName());
        for (int k = 0; k < with.length; k++) {
            if (m.getParameterTypes()[k] == boolean.class) {
                with[k] = r.nextBoolean();
            } else {
                with[k] = number();
            }
            all.append(' ').append(with[k]);
        }
        String thrown = "";
        try {
            m.invoke(x, with);
        } catch (InvocationTargetException e) {
            Class<?> what = e.getCause().getClass();
            boolean may = m.getName().equals("cell")
                && (what == IndexOutOfBoundsException.class || what == NoSuchElementException.class);
            thrown = may ? "" : what.getName();
        } catch (IllegalAccessException e) {
            thrown = e.toString();
        }
        Due.is(all + " throws " + thrown, thrown.isEmpty(), true);
    }
}
