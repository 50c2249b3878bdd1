import java.io.IOException;
import java.lang.reflect.Constructor;
import java.lang.reflect.Field;
import java.lang.reflect.Method;
import java.lang.reflect.Modifier;
import java.nio.file.Files;
import java.nio.file.Path;
import java.util.ArrayList;
import java.util.Arrays;
import java.util.Collections;
import java.util.HashMap;
import java.util.HashSet;
import java.util.List;
import java.util.Map;
import java.util.Set;
import java.util.regex.Matcher;
import java.util.regex.Pattern;

/** The program keeps to the document's face and to those rules of LANGUAGE.md that a text shows. */
public final class FaithRailsLanguageTest {
    private static final Path SOURCE = Path.of("src/main/java/FaithRails.java");

    private static final String[] FACE = {"need(int,int)int", "stretch(int,int)int", "person(int,int)int",
        "of(int,int)int", "change(int,int,int)int", "set(int,int)int", "board(int)int", "leave(int)int",
        "go(int)int", "now(int)int", "ahead(int)int", "believes(int,int)int", "when(int)int", "falls()int",
        "settles()int", "there(int)int", "kindFor(int,int)int", "with(int,int)int", "fewest(int,int)int",
        "farthest(int)int", "without(int)int", "persuade(int,int,int)int", "bears(int,int)int",
        "seat(int,int)int", "kinds(int,int)int", "beliefs(int,int)int", "least(int,int)int", "worth()int",
        "hangs(int)int", "run()int", "gold(int)int", "odds(int,int)long", "seed(int)int", "feed(int,int)int",
        "wipe()int", "text()int", "hold(int,int)int", "as(int,int)int", "sheet(int,int,int)int",
        "write(int,int,int)int", "copy(int,int,int,int,int)int", "load(int)int", "judge(int)int",
        "image()int", "undo()int", "tear()int", "count(int)int", "status(int)int"};

    private static final String[] FORBIDDEN = {"\\bthrows?\\b", "\\btry\\b", "\\bcatch\\b", "\\bsynchronized\\b",
        "\\bassert\\b", "->", "::", "\\bvar\\b", "\\bprotected\\b", "\\bThread\\b", "\\bRandom\\b", "\\bMap\\b",
        "\\bObject\\b", "\\bhashCode\\b", "\\btoString\\b", "\\bSystem\\.(?!arraycopy)", "\\bArrays\\.(?!fill|copyOf)",
        "\\w+Exact\\b", "\\bMath\\.(?!max|min|abs)", "\\bInteger\\.(?!bitCount)", "[^\\x00-\\x7f]"};

    private static final int DEEPEST = 8;

    private static int wrong = 0;

    private static void must(boolean holds, String what) {
        if (!holds) {
            wrong++;
            System.out.println(what);
        }
    }

    private static void face() {
        List<String> shown = new ArrayList<>();
        Set<String> shownNames = new HashSet<>();
        for (Method m : FaithRails.class.getDeclaredMethods()) {
            if (m.isSynthetic() || Modifier.isPrivate(m.getModifiers())) {
                continue;
            }
            must(Modifier.isPublic(m.getModifiers()) && !Modifier.isStatic(m.getModifiers()), m + " is of no face");
            StringBuilder b = new StringBuilder(m.getName()).append('(');
            for (Class<?> c : m.getParameterTypes()) {
                b.append(b.charAt(b.length() - 1) == '(' ? "" : ",").append(c.getName());
            }
            shown.add(b.append(')').append(m.getReturnType().getName()).toString());
            shownNames.add(m.getName());
        }
        List<String> due = new ArrayList<>(Arrays.asList(FACE));
        Collections.sort(due);
        Collections.sort(shown);
        must(due.equals(shown), "the face is " + shown);
        for (Class<?> c : FaithRails.class.getNestMembers()) {
            for (Method m : c.getDeclaredMethods()) {
                must(Modifier.isPublic(m.getModifiers()) || !shownNames.contains(m.getName()),
                        "a method inside bears a public name: " + m);
            }
        }
        for (Field f : FaithRails.class.getDeclaredFields()) {
            must(f.isSynthetic() || Modifier.isPrivate(f.getModifiers()), f + " is seen from outside");
        }
        Constructor<?>[] made = FaithRails.class.getDeclaredConstructors();
        must(made.length == 1 && Modifier.isPublic(made[0].getModifiers()) && made[0].getParameterCount() == 0,
                "one public constructor without arguments");
        must(Modifier.isFinal(FaithRails.class.getModifiers()), "the class is final");
    }

    private static void fieldsOf(Class<?> c) {
        int own = 0;
        for (Field f : c.getDeclaredFields()) {
            if (Modifier.isStatic(f.getModifiers())) {
                must(f.isSynthetic() || Modifier.isFinal(f.getModifiers()), f + " is static and not final");
            } else {
                own++;
            }
        }
        must(own <= 20, c + " has " + own + " fields");
        must(c == FaithRails.class || Modifier.isStatic(c.getModifiers()), c + " isn't static");
        for (Method m : c.getDeclaredMethods()) {
            must(m.getParameterCount() <= 7, m + " has too many parameters");
        }
    }

    private static void words() throws IOException {
        String source = Files.readString(SOURCE);
        String code = Pattern.compile("/\\*.*?\\*/|//[^\n]*", Pattern.DOTALL).matcher(source).replaceAll("");
        for (String word : FORBIDDEN) {
            Matcher m = Pattern.compile(word).matcher(code);
            must(!m.find(), "the program says " + word);
        }
        Matcher imports = Pattern.compile("import ([^;]*);").matcher(code);
        while (imports.find()) {
            must(imports.group(1).equals("java.util.Arrays"), "it imports " + imports.group(1));
        }
        must(!Pattern.compile("^package", Pattern.MULTILINE).matcher(code).find(), "it has a package");
        methodsAreShort(code);
        callsEnd(code);
        objectsAreMadeOnce(code);
    }

    private static void methodsAreShort(String code) {
        String[] lines = code.split("\n");
        int begin = -1;
        for (int i = 0; i < lines.length; i++) {
            if (lines[i].matches("( {4}| {8})(public |private |static |final )*[\\w\\[\\]]+ ?[\\w]*\\(.*\\{")) {
                begin = i;
            } else if (lines[i].matches("( {4}| {8})\\}") && begin >= 0) {
                must(i - begin <= 60, lines[begin].trim() + " is of " + (i - begin) + " lines");
                begin = -1;
            }
        }
    }

    /** No method calls itself, also not by others; a public call opens at most eight. */
    private static void callsEnd(String code) {
        Map<String, String> bodies = new HashMap<>();
        Matcher heads = Pattern.compile("(?m)^( {4}| {8})(?:public |private |static )*\\w+(?:\\[\\])? (\\w+)\\([^)]*\\) \\{$")
                .matcher(code);
        while (heads.find()) {
            int end = code.indexOf("\n" + heads.group(1) + "}", heads.end());
            must(bodies.put(heads.group(2), code.substring(heads.end(), end)) == null,
                    "two methods bear the name " + heads.group(2));
        }
        must(bodies.size() > FACE.length, "only " + bodies.size() + " methods are found");
        for (String call : bodies.keySet()) {
            must(depth(call, bodies, 1) <= DEEPEST, call + " opens too many calls");
        }
    }

    private static int depth(String call, Map<String, String> bodies, int open) {
        if (open > DEEPEST) {
            return open;
        }
        int deepest = open;
        Matcher called = Pattern.compile("(\\w+)\\(").matcher(bodies.get(call));
        while (called.find()) {
            if (bodies.containsKey(called.group(1))) {
                deepest = Math.max(deepest, depth(called.group(1), bodies, open + 1));
            }
        }
        return deepest;
    }

    /** Objects are made with their fields and in the one constructor that fills a row: in no call. */
    private static void objectsAreMadeOnce(String code) {
        for (String line : code.split("\n")) {
            boolean made = line.matches(".*\\bnew\\b.*");
            boolean once = line.matches("\\s+(private )?final [\\w\\[\\]]+ \\w+ = new [^;]*;")
                    || line.trim().equals("sheets[s] = new Sheet();");
            must(!made || once, "a call makes an object: " + line.trim());
        }
    }

    public static void main(String[] args) throws IOException {
        face();
        fieldsOf(FaithRails.class);
        Class<?>[] inside = FaithRails.class.getDeclaredClasses();
        must(inside.length < 12, "there are " + inside.length + " classes inside");
        for (Class<?> c : inside) {
            fieldsOf(c);
        }
        must(FaithRails.class.getNestMembers().length == inside.length + 1, "a class inside is local or has no name");
        words();
        System.out.println(wrong == 0 ? "the language is kept to" : wrong + " rules are not kept to");
        if (wrong != 0) {
            System.exit(1);
        }
    }
}
