import java.io.IOException;
import java.lang.reflect.InvocationTargetException;
import java.lang.reflect.Method;
import java.lang.reflect.Modifier;
import java.nio.file.Files;
import java.nio.file.Path;
import java.util.TreeMap;
import java.util.TreeSet;
import java.util.regex.Matcher;
import java.util.regex.Pattern;

/** README.md: each call that its example makes, with the answer that stands behind it; every method is called there. */
public final class ReadmeTest {
    private static final Pattern CALL = Pattern.compile("x\\.(\\w+)\\(([^)]*)\\);\\s*// (-?\\d+|true|false)\\b.*");
    private static final Pattern TELL = Pattern.compile("tell\\(x, (.*)\\); // (\\d+).*");
    private static final String START = "CrowRota x = new CrowRota();\n";

    public static void main(String[] args) throws IOException, IllegalAccessException {
        String readme = Files.readString(Path.of("README.md"));
        Due.is("README.md names its tests' command", readme.contains("\n.ci/run\n"), true);
        int start = readme.indexOf(START);
        int end = readme.indexOf("```", Math.max(0, start));
        Due.is("README.md makes a CrowRota", start >= 0 && end > start, true);
        TreeMap<String, Method> face = new TreeMap<>();
        for (Method m : CrowRota.class.getDeclaredMethods()) {
            if (Modifier.isPublic(m.getModifiers())) {
                face.put(m.getName(), m);
            }
        }
        TreeSet<String> missing = new TreeSet<>(face.keySet());
        CrowRota x = new CrowRota();
        // a TEXT may go on in the next line
        String example = readme.substring(start + START.length(), end).replaceAll("\"\\s*\\+\\s*\"", "");
        for (String line : example.split("\n")) {
            if (!line.isEmpty()) {
                follow(x, line, face, missing);
            }
        }
        Due.is("README.md doesn't call " + missing, missing.size(), 0);
        Due.end();
    }

    private static void follow(CrowRota x, String line, TreeMap<String, Method> face, TreeSet<String> missing)
            throws IllegalAccessException {
        Matcher tell = TELL.matcher(line);
        if (tell.matches()) {
            String quoted = tell.group(1);
            Due.is(line, Due.text(x, quoted.substring(1, quoted.length() - 1)), Integer.parseInt(tell.group(2)));
            return;
        }
        Matcher call = CALL.matcher(line);
        boolean known = call.matches() && face.containsKey(call.group(1));
        Due.is("a call with its answer: " + line, known, true);
        if (known) {
            missing.remove(call.group(1));
            String got = answer(x, face.get(call.group(1)), call.group(2));
            Due.is(line + " (answered " + got + ")", got.equals(call.group(3)), true);
        }
    }

    /** What a call with these arguments answers. */
    private static String answer(CrowRota x, Method m, String arguments) throws IllegalAccessException {
        String[] given = arguments.isEmpty() ? new String[0] : arguments.split(", ");
        Class<?>[] types = m.getParameterTypes();
        if (given.length != types.length) {
            return "other arguments";
        }
        Object[] values = new Object[given.length];
        for (int i = 0; i < given.length; i++) {
            values[i] = types[i] == boolean.class ? (Object) given[i].equals("true") : (Object) Integer.parseInt(given[i]);
        }
        try {
            return String.valueOf(m.invoke(x, values));
        } catch (InvocationTargetException e) {
            return String.valueOf(e.getCause());
        }
    }
}
