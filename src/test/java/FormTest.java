import java.io.IOException;
import java.lang.management.ManagementFactory;
import java.lang.reflect.Constructor;
import java.lang.reflect.Field;
import java.lang.reflect.Method;
import java.lang.reflect.Modifier;
import java.nio.file.Files;
import java.nio.file.Path;
import java.util.TreeSet;
import java.util.regex.Matcher;
import java.util.regex.Pattern;

/** What of ../shared/LANGUAGE.md can be seen from outside: the face, words that aren't allowed, room that a call takes. */
public final class FormTest {
    private static final String FACE = "ahead(int,int)int allSeen()int back()int both(int,int,int)int cell(int,int)int"
        + " chance(int,int,int)int clash(int)int costs(int,int,int)int count(int)int expects(int)int fault(int)int"
        + " feed(int,int,int,int,int)int fits(int)int flap(int,int,boolean)boolean go(int)int hat(int,int)boolean idle()int"
        + " keep()int keeping(int,int,int)int known(int)boolean law(int,int,int)long lot(int,int,int,int,int)int named(int)int"
        + " note(int,int,int,boolean)int oneMore(int,int)int out(int)int scare(int,int)int sees(int,int)int"
        + " share(int,int)int strike(int,boolean)boolean text(int)int tried(int,int,int)int undo()int wind(int)int";

    public static void main(String[] args) throws IOException {
        face();
        source();
        room();
        Due.end();
    }

    private static void face() {
        TreeSet<String> found = new TreeSet<>();
        TreeSet<String> names = new TreeSet<>();
        for (Method m : CrowRota.class.getDeclaredMethods()) {
            if (!m.isSynthetic() && !Modifier.isPrivate(m.getModifiers())) {
                Due.is(m + " is public", Modifier.isPublic(m.getModifiers()) && !Modifier.isStatic(m.getModifiers()), true);
                StringBuilder one = new StringBuilder(m.getName()).append('(');
                for (Class<?> type : m.getParameterTypes()) {
                    one.append(one.charAt(one.length() - 1) == '(' ? "" : ",").append(type.getName());
                }
                found.add(one.append(')').append(m.getReturnType().getName()).toString());
                names.add(m.getName());
            }
        }
        Due.is("face " + found, String.join(" ", found).equals(FACE), true);
        for (Method m : CrowRota.class.getDeclaredMethods()) {
            Due.is("private " + m, Modifier.isPrivate(m.getModifiers()) && names.contains(m.getName()), false);
        }
        for (Field f : CrowRota.class.getDeclaredFields()) {
            boolean none = f.getName().equals("NONE");
            Due.is("field " + f, Modifier.isPrivate(f.getModifiers()), !none);
            Due.is("static " + f, Modifier.isStatic(f.getModifiers()) && !Modifier.isFinal(f.getModifiers()), false);
        }
        Due.is("constructors", CrowRota.class.getDeclaredConstructors().length, 1);
        for (Constructor<?> c : CrowRota.class.getDeclaredConstructors()) {
            Due.is("constructor " + c, Modifier.isPublic(c.getModifiers()) && c.getParameterCount() == 0, true);
        }
        Due.is("NONE", CrowRota.NONE, -1);
        Due.is("final", Modifier.isFinal(CrowRota.class.getModifiers()), true);
        Due.is("classes", CrowRota.class.getDeclaredClasses().length <= 11, true);
        for (Class<?> inside : CrowRota.class.getDeclaredClasses()) {
            Due.is(inside + " is private and static", Modifier.isPrivate(inside.getModifiers())
                && Modifier.isStatic(inside.getModifiers()), true);
        }
    }

    private static void source() throws IOException {
        String text = Files.readString(Path.of("src/main/java/CrowRota.java"));
        String code = text.replaceAll("(?s)/\\*.*?\\*/", "").replaceAll("//[^\n]*", "").replaceAll("\"[^\"]*\"", "\"\"");
        String[] banned = {"->", "::", "Exact", "\\bcatch\\b", "\\bfinally\\b", "\\bassert\\b", "\\bsynchronized\\b", "@",
            "\\bwhile\\s*\\(\\s*true", "\\bRandom\\b", "\\bSystem\\.(?!arraycopy)", "\\bString\\b(?! LANGUAGE)",
            "\\bMath\\.(?!max|min|abs\\b)", "\\bInteger\\.(?!bitCount)", "\\bLong\\b", "\\bObject\\b", "\\bprotected\\b",
            "\"\\s*\\+", "\\+\\s*\"", "\\binstanceof\\b"};
        for (String word : banned) {
            Matcher m = Pattern.compile(word).matcher(code);
            Due.is("word " + word, m.find(), false);
        }
        for (char c : text.toCharArray()) {
            if (c > 126) {
                Due.is("sign", c, 126);
            }
        }
        int imports = code.split("import ").length - 1;
        Due.is("imports", imports, 2);
    }

    /** No call but the constructor makes anything (what an exception takes aside). */
    private static void room() {
        com.sun.management.ThreadMXBean bean = (com.sun.management.ThreadMXBean) ManagementFactory.getThreadMXBean();
        long thread = Thread.currentThread().getId();
        CrowRota x = new CrowRota();
        all(x);
        long ahead = bean.getThreadAllocatedBytes(thread);
        for (int turn = 0; turn < 200; turn++) {
            all(x);
        }
        Due.is("bytes of all calls", bean.getThreadAllocatedBytes(thread) - ahead < 4000, true);
        ahead = bean.getThreadAllocatedBytes(thread);
        new CrowRota();
        Due.is("bytes of an object", bean.getThreadAllocatedBytes(thread) - ahead < 60000, true);
    }

    private static void all(CrowRota x) {
        // "scare a 0 0 1 1 1;" and blanks
        x.feed(0x73636172, 0x65206120, 0x30203020, 0x31203120, 0x313b2020);
        x.text(20);
        x.named(1 << 25);
        x.cell(0, 2);
        x.scare(0, 7);
        x.law(0, 0, 0);
        x.flap(0, 2, true);
        x.strike(0, true);
        x.hat(0, 2);
        x.undo();
        x.go(14);
        x.ahead(3, 0);
        x.clash(0);
        x.keeping(0, 1, 0);
        x.allSeen();
        x.oneMore(1, 0);
        x.costs(0, 2, 0);
        x.lot(0, 1, 2, 3, 0);
        x.share(5, 0);
        x.note(3, 0, 4, true);
        x.out(0);
        x.fits(0);
        x.chance(5, 2, 7);
        x.tried(4, 0, 2);
        x.keep();
        x.back();
        x.count(8);
    }
}
