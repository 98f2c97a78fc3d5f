import java.io.IOException;
import java.lang.reflect.Constructor;
import java.lang.reflect.Field;
import java.lang.reflect.Method;
import java.lang.reflect.Modifier;
import java.nio.file.Files;
import java.nio.file.Path;
import java.util.Set;
import java.util.TreeSet;
import java.util.regex.Matcher;
import java.util.regex.Pattern;

/** The rules of LANGUAGE.md that can be read off the compiled class or the text of its file. */
public final class LanguageTest {
    private static final Path SOURCE = Path.of("src/main/java/MeetSets.java");
    private static final String[] FACE = {
        "int ground(int)", "int set(int)", "int drop()", "int cost(int,int)", "int meeters()", "int meeter(int)",
        "int best(int)", "int other(int)", "int otherless()", "int take()", "int witness()", "int shares()",
        "int apart()", "int star(int)", "int seen(int)", "int dimension(int)", "int colourings(int)",
        "int colouring()", "int ears()", "int twoByTwo()", "int game(int,int)", "int chance(int,int)",
        "long part(int)", "int swings(int)", "int questions(int)", "int count(int)", "long digest()"};
    private static final String[] RULED_OUT = {
        "\\b(throw|throws|try|catch|synchronized|assert|volatile|native|transient)\\b", "->", "::", "\\bExact\\w*\\(",
        "\\w+Exact\\b", "\\b(Random|System\\.(?!arraycopy)|Thread|Object|var)\\b", "\\b(equals|hashCode|toString)\\b",
        "\\bstatic\\s*\\{", "\\bimport\\s+(?!java\\.util\\.Arrays;)", "@", "\\bpackage\\b"};
    /** What of the library the class uses: all of it is on the list of rule 4. */
    private static final Set<String> LIBRARY = Set.of("Arrays.fill", "Integer.bitCount", "Math.min", "Math.max");
    /** The first line of a method of the class or of one inside it. */
    private static final String HEAD = "( {4}| {8})[\\w\\[\\] ]+\\(.*\\) \\{";
    private static final int MOST_LINES = 60;
    private static final int MOST_PARAMETERS = 7;
    private static final int MOST_CLASSES = 12;
    private static final int MOST_FIELDS = 20;

    private final Checks checks = new Checks();

    public static void main(String[] args) throws IOException {
        new LanguageTest().run();
    }

    private void run() throws IOException {
        face();
        classes();
        String text = withoutComments(Files.readString(SOURCE));
        words(text);
        library(text);
        lengths(text.split("\n", -1));
        makings(text.split("\n", -1));
        checks.end();
    }

    private void face() {
        checks.at("rule 1");
        checks.same("the class is public and final",
            Modifier.isPublic(MeetSets.class.getModifiers()) && Modifier.isFinal(MeetSets.class.getModifiers()), true);
        Set<String> found = new TreeSet<>();
        for (Method m : MeetSets.class.getDeclaredMethods()) {
            if (!Modifier.isPrivate(m.getModifiers())) found.add(signature(m));
        }
        checks.same("its methods", found, new TreeSet<>(Set.of(FACE)));
        Set<String> fields = new TreeSet<>();
        for (Field f : MeetSets.class.getDeclaredFields()) {
            if (!Modifier.isPrivate(f.getModifiers())) fields.add(Modifier.toString(f.getModifiers()) + " " + f.getName());
        }
        String constant = "public static final ";
        checks.same("its constants", fields,
            new TreeSet<>(Set.of(constant + "NONE", constant + "BAD", constant + "NO", constant + "FULL")));
        Constructor<?>[] made = MeetSets.class.getDeclaredConstructors();
        checks.due("its constructors", made.length, 1);
        checks.same("the constructor", made[0].toString(), "public MeetSets()");
    }

    private static String signature(Method m) {
        StringBuilder types = new StringBuilder();
        for (Class<?> type : m.getParameterTypes()) {
            if (types.length() > 0) types.append(',');
            types.append(type.getSimpleName());
        }
        return m.getReturnType().getSimpleName() + " " + m.getName() + "(" + types + ")";
    }

    private void classes() {
        Class<?>[] inside = MeetSets.class.getDeclaredClasses();
        checks.at("rule 11");
        checks.same("few classes", inside.length + 1 <= MOST_CLASSES, true);
        Set<String> names = new TreeSet<>();
        for (String line : FACE) names.add(line.substring(line.indexOf(' ') + 1, line.indexOf('(')));
        members(MeetSets.class, Set.of());
        for (Class<?> c : inside) {
            checks.at("rule 2");
            checks.same(c + " is static", Modifier.isStatic(c.getModifiers()), true);
            members(c, names);
        }
        checks.at("rule 1");
        for (Method m : MeetSets.class.getDeclaredMethods()) {
            if (Modifier.isPrivate(m.getModifiers())) checks.same(m + " has a public one's name", names.contains(m.getName()), false);
        }
    }

    private void members(Class<?> c, Set<String> faceNames) {
        int fields = 0;
        for (Field f : c.getDeclaredFields()) {
            boolean constant = Modifier.isStatic(f.getModifiers());
            fields += constant ? 0 : 1;
            checks.at("rule 5");
            checks.same(f + " is final", !constant || Modifier.isFinal(f.getModifiers()), true);
            if (constant) {
                Set<String> types = Set.of("int", "long", "boolean", "char", "String", "int[]", "long[]", "char[]", "byte[]");
                checks.same(f + " is of a type for constants", types.contains(f.getType().getSimpleName()), true);
            }
        }
        checks.at("rule 11");
        checks.same(c + " has few fields", fields <= MOST_FIELDS, true);
        for (Method m : c.getDeclaredMethods()) {
            checks.same(m + " takes few parameters", m.getParameterCount() <= MOST_PARAMETERS, true);
            checks.same(m + " has a name of its own", faceNames.contains(m.getName()), false);
        }
    }

    private void words(String text) {
        checks.at("rules 4, 6 and 13");
        for (String rule : RULED_OUT) {
            Matcher m = Pattern.compile(rule).matcher(text);
            checks.same(rule, m.find() ? m.group() : "", "");
        }
    }

    private void library(String text) {
        checks.at("rule 4");
        Matcher m = Pattern.compile("\\b[A-Z]\\w*\\.[a-z]\\w*").matcher(text);
        while (m.find()) checks.same(m.group() + " is of the library", LIBRARY.contains(m.group()), true);
        checks.at("rule 3");
        checks.same("there are texts", text.contains("\""), false);
        checks.same("there are doubles", Pattern.compile("\\b(double|float)\\b").matcher(text).find(), false);
    }

    private void lengths(String[] lines) {
        checks.at("rule 11");
        int start = -1;
        for (int i = 0; i < lines.length; i++) {
            if (lines[i].matches(HEAD)) start = i;
            if (start >= 0 && lines[i].matches("( {4}| {8})\\}")) {
                checks.same("the method in line " + (start + 1) + " is short", i - start < MOST_LINES, true);
                start = -1;
            }
        }
    }

    /** All calls of a run live in one room, so whatever an object needs is made with it. */
    private void makings(String[] lines) {
        checks.at("rule 12");
        boolean constructor = false;
        for (int i = 0; i < lines.length; i++) {
            if (lines[i].matches(HEAD)) constructor = lines[i].matches(" +(public )?[A-Z]\\w*\\(.*");
            if (lines[i].matches(".*\\bnew\\b.*")) checks.same("line " + (i + 1) + " is of a constructor", constructor, true);
        }
    }

    private static String withoutComments(String text) {
        return text.replaceAll("(?s)/\\*.*?\\*/", "").replaceAll("//[^\n]*", "");
    }
}
