import java.io.IOException;
import java.lang.reflect.Field;
import java.lang.reflect.Method;
import java.lang.reflect.Modifier;
import java.nio.file.Files;
import java.nio.file.Path;
import java.util.ArrayList;
import java.util.Arrays;
import java.util.List;
import java.util.Set;
import java.util.TreeSet;
import java.util.regex.Matcher;
import java.util.regex.Pattern;

/** The face of the class, and those rules of ../shared/LANGUAGE.md that its text or its parts show. */
final class LanguageTest {
    private static final Check CHECK = new Check("LanguageTest");
    private static final Path SOURCE = Path.of("src/main/java/FreePlace.java");
    private static final String[] FACE = {
        "feed(int)", "realm()", "fault()", "told(int)", "table(int,int)", "way(int,int)", "come(int)", "go(int)",
        "build(int)", "breakOne(int)", "shut(int,boolean)", "drift(int)", "undo()", "chain(int,int)", "more(int)",
        "far(int)", "two(int,int,int)", "chairs(int,int,int)", "spread(int)", "quiet(int,int)", "see(int,boolean)",
        "came()", "look()", "write(int,int)", "tear()", "judge()", "seed(int)", "keep(int)", "goBack(int)",
    };

    private LanguageTest() {
    }

    public static void main(String[] args) throws IOException {
        face();
        constants();
        classes();
        List<String> lines = Files.readAllLines(SOURCE);
        signs(lines);
        words(lines);
        rowsOnce(lines);
        lengths(lines);
        headings(lines);
        CHECK.close();
    }

    private static void holds(String what, boolean is) {
        CHECK.due(what, is ? 1 : 0, 1);
    }

    /** Rule 1. */
    private static void face() {
        int modifiers = FreePlace.class.getModifiers();
        holds("public and final", Modifier.isPublic(modifiers) && Modifier.isFinal(modifiers));
        Set<String> open = new TreeSet<>();
        Set<String> hidden = new TreeSet<>();
        Set<String> names = new TreeSet<>();
        for (Method m : FreePlace.class.getDeclaredMethods()) {
            if (Modifier.isPrivate(m.getModifiers())) {
                hidden.add(m.getName());
                continue;
            }
            names.add(m.getName());
            StringBuilder told = new StringBuilder(m.getName()).append('(');
            for (Class<?> type : m.getParameterTypes()) {
                told.append(told.charAt(told.length() - 1) == '(' ? "" : ",").append(type.getName());
            }
            open.add(told.append(')').toString());
            holds(m.getName() + " is public", Modifier.isPublic(m.getModifiers()) && !Modifier.isStatic(m.getModifiers()));
            holds(m.getName() + " answers an int", m.getReturnType() == int.class);
        }
        holds("the document's calls, no other: " + open, open.equals(new TreeSet<>(Arrays.asList(FACE))));
        hidden.retainAll(names);
        holds("no private method with a public one's name: " + hidden, hidden.isEmpty());
        holds("one constructor", FreePlace.class.getDeclaredConstructors().length == 1
                && FreePlace.class.getConstructors().length == 1);
    }

    private static void constants() {
        CHECK.due("NONE", FreePlace.NONE, -1);
        CHECK.due("UNKNOWN", FreePlace.UNKNOWN, -1000000001);
        CHECK.due("OUTSIDE", FreePlace.OUTSIDE, -1000000002);
        CHECK.due("NOT", FreePlace.NOT, -1000000003);
        CHECK.due("FULL", FreePlace.FULL, -1000000004);
        Set<String> open = new TreeSet<>();
        for (Field f : FreePlace.class.getDeclaredFields()) {
            if (!Modifier.isPrivate(f.getModifiers())) {
                open.add(Modifier.toString(f.getModifiers()) + " " + f.getType() + " " + f.getName());
            }
        }
        Set<String> due = new TreeSet<>();
        for (String name : new String[] {"NONE", "UNKNOWN", "OUTSIDE", "NOT", "FULL"}) {
            due.add("public static final int " + name);
        }
        holds("the document's constants, no other: " + open, open.equals(due));
    }

    /** Rules 2, 5, 11. */
    private static void classes() {
        List<Class<?>> all = new ArrayList<>(List.of(FreePlace.class));
        for (Class<?> inner : FreePlace.class.getDeclaredClasses()) {
            int modifiers = inner.getModifiers();
            holds(inner + " is static", Modifier.isStatic(modifiers));
            holds(inner + " is not open", !Modifier.isPublic(modifiers) && !Modifier.isProtected(modifiers));
            all.add(inner);
        }
        holds("some twelve classes", all.size() <= 12);
        for (Class<?> c : all) {
            int fields = 0;
            for (Field f : c.getDeclaredFields()) {
                boolean isStatic = Modifier.isStatic(f.getModifiers());
                fields += isStatic ? 0 : 1;
                holds(f + " is final, if static", !isStatic || Modifier.isFinal(f.getModifiers()));
            }
            holds(c + " has some twenty fields", fields <= 20);
            for (Method m : c.getDeclaredMethods()) {
                holds(m + " has seven parameters at most", m.getParameterCount() <= 7);
            }
        }
    }

    /** "Ahead of the calls .. the interface says": each heading once, its calls behind it in their order. */
    private static void headings(List<String> lines) {
        String[] due = {
            "---- the realm", "feed", "realm", "fault", "told", "table", "way",
            "---- what is done", "come", "go", "build", "breakOne", "shut", "drift", "undo",
            "---- tried", "chain", "more", "far", "two", "chairs", "spread", "quiet",
            "---- what is seen", "see", "came", "look", "write", "tear", "judge",
            "---- draws, images", "seed", "keep", "goBack",
        };
        Pattern heading = Pattern.compile(" {4}// (----.*)");
        Pattern call = Pattern.compile(" {4}public int (\\w+)\\(.*");
        List<String> found = new ArrayList<>();
        for (String line : lines) {
            for (Pattern one : new Pattern[] {heading, call}) {
                Matcher m = one.matcher(line);
                if (m.matches()) {
                    found.add(m.group(1));
                }
            }
        }
        holds("the headings and their calls: " + found, found.equals(Arrays.asList(due)));
    }

    private static void signs(List<String> lines) {
        for (String line : lines) {
            holds("plain signs: " + line, line.chars().allMatch(c -> c >= 32 && c < 127));
        }
    }

    private static String bare(String line) {
        String trimmed = line.trim();
        if (trimmed.startsWith("/**") || trimmed.startsWith("*") || trimmed.startsWith("//")) {
            return "";
        }
        return line.replaceAll("'\\\\?.'", "0").replaceAll("//.*", "");
    }

    /** Rules 2, 4, 6. */
    private static void words(List<String> lines) {
        Pattern banned = Pattern.compile("\\b(package|import|throws?|try|catch|finally|synchronized|assert|instanceof|"
                + "String|Object|System|Thread|var|record|volatile|transient|native|float|double)\\b|->|::|@|\"");
        Pattern library = Pattern.compile("\\b([A-Z][a-z]\\w*)\\.");
        Pattern alone = Pattern.compile("Math\\.(min|max)\\(|Integer\\.(bitCount|numberOfTrailingZeros)\\(");
        for (String line : lines) {
            String bare = bare(line);
            holds("no banned word: " + line, !banned.matcher(bare).find());
            Matcher used = library.matcher(bare);
            while (used.find()) {
                holds("of the library only what stands there: " + line, alone.matcher(bare.substring(used.start())).lookingAt());
            }
        }
    }

    /** Rule 12: rows are made with the object, none by a call. */
    private static void rowsOnce(List<String> lines) {
        Pattern made = Pattern.compile("(private )?final [\\w\\[\\]]+ \\w+ = new [\\w\\[\\]()]+;|states\\[i\\] = new State\\(\\);");
        for (String line : lines) {
            if (bare(line).matches(".*\\bnew\\b.*")) {
                holds("made with the object: " + line, made.matcher(line.trim()).matches());
            }
        }
    }

    /** Rule 11: methods of some sixty lines at most. */
    private static void lengths(List<String> lines) {
        Pattern head = Pattern.compile("( {4}| {8})\\w[\\w\\[\\] ]* ?\\w+\\(.*\\) \\{");
        int methods = 0;
        for (int i = 0; i < lines.size(); i++) {
            Matcher m = head.matcher(lines.get(i));
            if (m.matches()) {
                methods++;
                int end = i;
                while (!lines.get(end).equals(m.group(1) + "}")) {
                    end++;
                }
                holds("short: " + lines.get(i).trim(), end - i <= 60);
            }
        }
        holds("methods were found: " + methods, methods > 29);
    }
}
