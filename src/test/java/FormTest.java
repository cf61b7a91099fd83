import java.io.IOException;
import java.lang.management.ManagementFactory;
import java.lang.reflect.Constructor;
import java.lang.reflect.Field;
import java.lang.reflect.Method;
import java.lang.reflect.Modifier;
import java.nio.file.Files;
import java.nio.file.Path;
import java.util.TreeSet;
import java.util.regex.Matcher;
import java.util.regex.Pattern;

/** What of ../shared/LANGUAGE.md can be seen from outside: the face, words that aren't allowed, room that a call takes. */
public final class FormTest {
    private static final String FACE = "ahead(int,int)int allSeen()int back()int both(int,int,int)int cell(int,int)int"
        + " chance(int,int,int)int clash(int)int costs(int,int,int)int count(int)int expects(int)int fault(int)int"
        + " feed(int,int,int,int,int)int fits(int)int flap(int,int,boolean)boolean go(int)int hat(int,int)boolean idle()int"
        + " keep()int keeping(int,int,int)int known(int)boolean law(int,int,int)long lot(int,int,int,int,int)int named(int)int"
        + " note(int,int,int,boolean)int oneMore(int,int)int out(int)int scare(int,int)int sees(int,int)int"
        + " share(int,int)int strike(int,boolean)boolean text(int)int tried(int,int,int)int undo()int wind(int)int";

    public static void main(String[] args) throws IOException {
        face();
        source();
        room();
        Due.end();
    }

    private static void face() {
        TreeSet<String> found = new TreeSet<>();
        TreeSet<String> names = new TreeSet<>();
        for (Method m : CrowRota.class.getDeclaredMethods()) {
            if (!m.isSynthetic() && !Modifier.isPrivate(m.getModifiers())) {
                Due.is(m + " is public", Modifier.isPublic(m.getModifiers()) && !Modifier.isStatic(m.getModifiers()), true);
                StringBuilder one = new StringBuilder(m.getName()).append('(');
                for (Class<?> type : m.getParameterTypes()) {
                    one.append(one.charAt(one.length() - 1) == '(' ? "" : ",").append(type.getName());
                }
                found.add(one.append(')').append(m.getReturnType().getName()).toString());
                names.add(m.getName());
            }
        }
        Due.is("face " + found, String.join(" ", found).equals(FACE), true);
        for (Method m : CrowRota.class.getDeclaredMethods()) {
            Due.is("private " + m, Modifier.isPrivate(m.getModifiers()) && names.contains(m.getName()), false);
        }
        for (Field f : CrowRota.class.getDeclaredFields()) {
            boolean none = f.getName().equals("NONE");
            Due.is("field " + f, Modifier.isPrivate(f.getModifiers()), !none);
            Due.is("static " + f, Modifier.isStatic(f.getModifiers()) && !Modifier.isFinal(f.getModifiers()), false);
        }
        Due.is("constructors", CrowRota.class.getDeclaredConstructors().length, 1);
        for (Constructor<?> c : CrowRota.class.getDeclaredConstructors()) {
            Due.is("constructor " + c, Modifier.isPublic(c.getModifiers()) && c.getParameterCount() == 0, true);
        }
        Due.is("NONE", CrowRota.NONE, -1);
        Due.is("final", Modifier.isFinal(CrowRota.class.getModifiers()), true);
        Due.is("classes", CrowRota.class.getDeclaredClasses().length <= 12, true);
        size(CrowRota.class);
        for (Class<?> inside : CrowRota.class.getDeclaredClasses()) {
            int is = inside.getModifiers();
            Due.is(inside + " is out of reach", Modifier.isPublic(is) || Modifier.isProtected(is), false);
            size(inside);
        }
    }

    /** Some twenty fields a class beside its constants, seven parameters a method. */
    private static void size(Class<?> one) {
        int fields = 0;
        for (Field f : one.getDeclaredFields()) {
            fields += Modifier.isStatic(f.getModifiers()) || f.isSynthetic() ? 0 : 1;
            Due.is("static " + f, Modifier.isStatic(f.getModifiers()) && !Modifier.isFinal(f.getModifiers()), false);
        }
        Due.is("fields of " + one, fields <= 22, true);
        for (Method m : one.getDeclaredMethods()) {
            Due.is("parameters of " + m, m.getParameterCount() <= 7, true);
            Due.is("synchronized " + m, Modifier.isSynchronized(m.getModifiers()) || Modifier.isNative(m.getModifiers()), false);
        }
    }

    private static void source() throws IOException {
        String text = Files.readString(Path.of("src/main/java/CrowRota.java"));
        String code = text.replaceAll("(?s)/\\*.*?\\*/", "").replaceAll("//[^\n]*", "").replaceAll("\"[^\"]*\"", "\"\"");
        String[] banned = {"(?m)^(?!.*\\b(case|default)\\b).*->", "::", "Exact\\b", "\\bfinally\\b", "\\bassert\\b",
            "\\bsynchronized\\b", "\\bpackage\\b", "\\bprotected\\b", "\\bgetMessage\\b", "\\bThread\\b", "\\bRandom\\b",
            "\\b(Tree|Hash|Linked|Enum)?(Map|Set)\\b", "\\bSystem\\.(?!arraycopy)", "\\bMath\\.(sqrt|pow|random|sin|cos|log|exp|floor\\b|ceil)",
            "\\bArrays\\.(?!copyOf|copyOfRange|fill)", "\\bwhile\\s*\\(\\s*true", "\\bfor\\s*\\(\\s*;\\s*;", "\"\\s*\\+", "\\+\\s*\"",
            "\\bcatch\\s*\\([^)]*\\b(Exception|Throwable|Error|NullPointerException|ClassCastException|NegativeArraySizeException"
                + "|ArrayStoreException|ArrayIndexOutOfBoundsException)\\b"};
        for (String word : banned) {
            Matcher m = Pattern.compile(word).matcher(code);
            Due.is("word " + word, m.find(), false);
        }
        int highest = 0;
        for (char c : text.toCharArray()) {
            highest = Math.max(highest, c);
        }
        Due.is("the highest sign, " + highest, highest <= 127, true);
        Matcher imports = Pattern.compile("\\bimport\\s+([^;]*);").matcher(code);
        while (imports.find()) {
            Due.is("import " + imports.group(1),
                imports.group(1).matches("java\\.util\\.(ArrayList|Arrays|Iterator|List|NoSuchElementException)"), true);
        }
        lengths(code.split("\n"));
    }

    /** Methods stay short (some sixty lines). */
    private static void lengths(String[] lines) {
        for (int i = 0; i < lines.length; i++) {
            String line = lines[i];
            String end = line.replaceAll("\\S.*", "") + "}";
            if (line.matches("\\s+[\\w<>\\[\\] ]+\\([^;]*\\{") && !line.matches("\\s+(if|for|while|switch|else|do)\\b.*")) {
                int n = 1;
                while (i + n < lines.length && !lines[i + n].startsWith(end)) {
                    n++;
                }
                Due.is(line.trim() + " has " + n + " lines", n <= 65, true);
            }
        }
    }

    /** A run's 600000 objects and 7.3 million fields and elements are enough for many objects and their 512 calls each. */
    private static void room() {
        com.sun.management.ThreadMXBean bean = (com.sun.management.ThreadMXBean) ManagementFactory.getThreadMXBean();
        long thread = Thread.currentThread().getId();
        all(new CrowRota());
        long ahead = bean.getThreadAllocatedBytes(thread);
        for (int object = 0; object < 50; object++) {
            CrowRota x = new CrowRota();
            for (int turn = 0; turn < 18; turn++) {
                all(x);
            }
        }
        // an element is four bytes, or eight
        Due.is("bytes of 50 objects", bean.getThreadAllocatedBytes(thread) - ahead < 4 * 7300000, true);
    }

    private static void all(CrowRota x) {
        // "scare a 0 0 1 1 1;" and blanks
        x.feed(0x73636172, 0x65206120, 0x30203020, 0x31203120, 0x313b2020);
        x.text(20);
        x.named(1 << 25);
        x.cell(0, 2);
        x.scare(0, 7);
        x.law(0, 0, 0);
        x.flap(0, 2, true);
        x.strike(0, true);
        x.hat(0, 2);
        x.undo();
        x.go(14);
        x.ahead(3, 0);
        x.clash(0);
        x.keeping(0, 1, 0);
        x.allSeen();
        x.oneMore(1, 0);
        x.costs(0, 2, 0);
        x.lot(0, 1, 2, 3, 0);
        x.share(5, 0);
        x.note(3, 0, 4, true);
        x.out(0);
        x.fits(0);
        x.chance(5, 2, 7);
        x.tried(4, 0, 2);
        x.keep();
        x.back();
        x.count(8);
    }
}
