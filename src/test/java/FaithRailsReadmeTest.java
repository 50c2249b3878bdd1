import java.io.IOException;
import java.lang.reflect.Method;
import java.lang.reflect.Modifier;
import java.nio.file.Files;
import java.nio.file.Path;
import java.util.List;
import java.util.Set;
import java.util.TreeSet;
import java.util.regex.Matcher;
import java.util.regex.Pattern;

/** The examples of README.md answer what stands behind them, and each public call is in one. */
public final class FaithRailsReadmeTest {
    private static final Path README = Path.of("README.md");
    private static final String BEGIN = "FaithRails x = new FaithRails();";
    private static final Pattern CALL = Pattern.compile("x\\.(\\w+)\\(([^)]*)\\);\\s*// (-?\\d+)(:.*)?");
    private static final Pattern FINDING = Pattern.compile("\\| (-100000\\d) \\| (\\w+) .*");
    private static final List<String> FINDINGS =
            List.of("BEYOND", "FULL", "KIND", "NONE", "STATE", "MISSING", "SIZE");

    private static int wrong = 0;
    private static int examples = 0;
    private static int findings = 0;
    private static final Set<String> shown = new TreeSet<>();

    private static void fault(int line, String what) {
        wrong++;
        System.out.println("README.md, line " + line + ": " + what);
    }

    private static Method named(String name, int arguments) {
        for (Method m : FaithRails.class.getDeclaredMethods()) {
            if (Modifier.isPublic(m.getModifiers()) && m.getName().equals(name)
                    && m.getParameterCount() == arguments) {
                return m;
            }
        }
        return null;
    }

    private static void example(FaithRails x, int line, String text) throws ReflectiveOperationException {
        Matcher call = CALL.matcher(text);
        if (x == null || !call.matches()) {
            fault(line, "no example of a call: " + text);
            return;
        }
        String inside = call.group(2);
        String[] words = inside.isEmpty() ? new String[0] : inside.split(", ");
        Object[] arguments = new Object[words.length];
        for (int i = 0; i < words.length; i++) {
            arguments[i] = Integer.decode(words[i]);
        }
        Method act = named(call.group(1), arguments.length);
        if (act == null) {
            fault(line, "no such call: " + text);
            return;
        }
        examples++;
        shown.add(act.getName());
        long got = ((Number) act.invoke(x, arguments)).longValue();
        if (got != Long.parseLong(call.group(3))) {
            fault(line, text + " answers " + got);
        }
    }

    private static void findingRow(int line, String text) {
        Matcher row = FINDING.matcher(text);
        if (row.matches()) {
            findings++;
            int place = FINDINGS.indexOf(row.group(2));
            if (place < 0 || Integer.parseInt(row.group(1)) != -1000001 - place) {
                fault(line, "no such finding: " + text);
            }
        }
    }

    private static void everyCallIsShown() {
        for (Method m : FaithRails.class.getDeclaredMethods()) {
            if (Modifier.isPublic(m.getModifiers()) && !shown.contains(m.getName())) {
                wrong++;
                System.out.println("README.md has no example of " + m.getName());
            }
        }
    }

    public static void main(String[] args) throws IOException, ReflectiveOperationException {
        List<String> lines = Files.readAllLines(README);
        boolean inJava = false;
        FaithRails x = null;
        for (int i = 0; i < lines.size(); i++) {
            String text = lines.get(i);
            if (text.startsWith("```")) {
                inJava = text.equals("```java");
                x = null;
            } else if (inJava && text.equals(BEGIN)) {
                x = new FaithRails();
            } else if (inJava) {
                example(x, i + 1, text);
            } else {
                findingRow(i + 1, text);
            }
        }
        everyCallIsShown();
        if (findings != FINDINGS.size()) {
            wrong++;
            System.out.println("README.md tells " + findings + " findings");
        }
        System.out.println(wrong == 0 ? examples + " examples answer as README.md says" : wrong + " are wrong");
        if (wrong != 0) {
            System.exit(1);
        }
    }
}
