import java.io.IOException;
import java.lang.reflect.Constructor;
import java.lang.reflect.Field;
import java.lang.reflect.Method;
import java.lang.reflect.Modifier;
import java.nio.file.Files;
import java.nio.file.Path;
import java.util.ArrayList;
import java.util.Arrays;
import java.util.List;
import java.util.Map;
import java.util.TreeMap;
import java.util.TreeSet;
import java.util.regex.Matcher;
import java.util.regex.Pattern;

/** The face is the document's, and the source keeps to what of ../shared/LANGUAGE.md can be seen from here. */
public final class RulesTest {
    private static final Path SOURCE = Path.of("src/main/java/TaleTypes.java");
    private static final List<String> FACE = List.of(
        "feed(int)", "tale()", "told(int)", "taleAt(int,int)", "motif(int,int)", "costAt(int)",
        "pair(int,int,int)", "step(int,int,int)", "node(int,int)", "types(int,int)", "middle(int)",
        "common(int)", "wandered(int,int)", "take(int)", "cost(int,int)", "kind(int)",
        "road(int,int,boolean)", "at(int,int)", "drift(int)", "undo(int)", "write(int,int,int)",
        "tear()", "seed(int)", "keep(int)", "goBack(int)");
    private static final List<String> CONSTANTS = List.of("NONE", "UNKNOWN", "OUTSIDE", "NOT", "FULL");
    private static final List<String> FORBIDDEN = List.of(
        "throw", "throws", "try", "catch", "finally", "synchronized", "assert", "import", "package",
        "Random", "Thread", "System\\.(?!arraycopy)", "\\w+Exact", "protected", "->", "::", "hashCode", "toString");

    private static final List<String> LIBRARY = List.of("Math.min", "Math.max", "Math.abs", "Integer.bitCount", "System.arraycopy");

    private final Check check = new Check();

    public static void main(String[] args) throws IOException {
        RulesTest test = new RulesTest();
        test.face();
        test.constants();
        test.classes();
        test.source();
        test.library();
        test.lengths();
        test.depths();
        test.check.end("RulesTest");
    }

    private static String signature(Method m) {
        StringBuilder s = new StringBuilder(m.getName()).append('(');
        for (Class<?> p : m.getParameterTypes()) {
            s.append(s.charAt(s.length() - 1) == '(' ? "" : ",").append(p.getName());
        }
        return s.append(')').toString();
    }

    private void face() {
        int flags = TaleTypes.class.getModifiers();
        check.isTrue("public and final", Modifier.isPublic(flags) && Modifier.isFinal(flags));
        TreeSet<String> open = new TreeSet<>();
        TreeSet<String> openNames = new TreeSet<>();
        for (Method m : TaleTypes.class.getDeclaredMethods()) {
            if (!Modifier.isPrivate(m.getModifiers())) {
                open.add(signature(m));
                openNames.add(m.getName());
                check.isTrue(m + " is public, int, no static one", Modifier.isPublic(m.getModifiers())
                    && !Modifier.isStatic(m.getModifiers()) && m.getReturnType() == int.class);
            }
        }
        check.isTrue("the document's methods: " + open, open.equals(new TreeSet<>(FACE)));
        for (Method m : TaleTypes.class.getDeclaredMethods()) {
            boolean namesake = Modifier.isPrivate(m.getModifiers()) && openNames.contains(m.getName());
            check.isTrue("no private namesake: " + m, !namesake);
        }
        Constructor<?>[] made = TaleTypes.class.getDeclaredConstructors();
        check.isTrue("one public constructor", made.length == 1 && Modifier.isPublic(made[0].getModifiers())
            && made[0].getParameterCount() == 0);
    }

    private void constants() {
        TreeSet<String> open = new TreeSet<>();
        for (Field f : TaleTypes.class.getDeclaredFields()) {
            if (!Modifier.isPrivate(f.getModifiers())) {
                open.add(f.getName());
                check.due(f + " flags", f.getModifiers(), Modifier.PUBLIC | Modifier.STATIC | Modifier.FINAL);
                check.isTrue(f + " is an int", f.getType() == int.class);
            }
        }
        check.isTrue("the document's constants: " + open, open.equals(new TreeSet<>(CONSTANTS)));
    }

    private void classes() {
        Class<?>[] inside = TaleTypes.class.getDeclaredClasses();
        check.isTrue("at most twelve classes", inside.length < 12);
        for (Class<?> c : inside) {
            check.isTrue(c + " is static", Modifier.isStatic(c.getModifiers()));
            check.isTrue(c + " has no class inside", c.getDeclaredClasses().length == 0);
            long own = Arrays.stream(c.getDeclaredFields()).filter(f -> !Modifier.isStatic(f.getModifiers())).count();
            check.isTrue(c + " has at most twenty fields", own <= 20);
        }
        List<Class<?>> all = new ArrayList<>(Arrays.asList(inside));
        all.add(TaleTypes.class);
        for (Class<?> c : all) {
            for (Field f : c.getDeclaredFields()) {
                boolean fixed = !Modifier.isStatic(f.getModifiers()) || Modifier.isFinal(f.getModifiers());
                check.isTrue(f + " is final, if static", fixed);
            }
            for (Method m : c.getDeclaredMethods()) {
                check.isTrue(m + " has at most seven parameters", m.getParameterCount() <= 7);
            }
        }
    }

    private void source() throws IOException {
        String code = bareSource();
        for (String word : FORBIDDEN) {
            String bound = Character.isLetter(word.charAt(0)) ? "\\b" : "";
            Matcher m = Pattern.compile(bound + word + (word.matches("\\w+") ? "\\b" : "")).matcher(code);
            check.isTrue("no " + word, !m.find());
        }
        check.isTrue("no float numbers", !Pattern.compile("\\b(double|float)\\b").matcher(code).find());
    }

    private static String bareSource() throws IOException {
        return Files.readString(SOURCE).replaceAll("(?s)/\\*.*?\\*/", "").replaceAll("//[^\n]*", "");
    }

    /** Whatever stands behind a library class and a dot is one of the few that are used. */
    private void library() throws IOException {
        Matcher m = Pattern.compile("\\b(Integer|Long|Math|System|Arrays|String|Character|Object|List)\\b\\s*(\\.\\s*\\w+)?")
            .matcher(bareSource());
        while (m.find()) {
            check.isTrue("a library call of the list: " + m.group(), LIBRARY.contains(m.group()));
        }
    }

    /** From a line that opens a method to the line that closes it, by their depth. */
    private void lengths() throws IOException {
        String[] lines = Files.readString(SOURCE).split("\n");
        Pattern opens = Pattern.compile("( {4}| {8})(?! )[\\w\\[\\] ]+\\(.*\\) \\{");
        for (int i = 0; i < lines.length; i++) {
            Matcher m = opens.matcher(lines[i]);
            if (!m.matches()) continue;
            int end = i;
            while (end < lines.length && !lines[end].equals(m.group(1) + "}")) end++;
            check.isTrue("at most sixty lines: " + lines[i].trim(), end - i < 60);
        }
    }

    /** No method comes back to itself, and calls go at most eight deep, those of the library counted; namesakes count as one. */
    private void depths() throws IOException {
        Map<String, String> bodies = bodies();
        check.isTrue("methods were found", bodies.keySet().containsAll(List.of("feed", "goBack", "hull", "lineUp", "become")));
        for (String name : bodies.keySet()) {
            int deep = depth(name, bodies, List.of());
            check.isTrue(name + " goes " + deep + " deep", deep <= 8);
        }
    }

    /** The text of each method between its opening line and its closing one. */
    private static Map<String, String> bodies() throws IOException {
        Map<String, String> bodies = new TreeMap<>();
        Matcher m = Pattern.compile("(?m)^( {4}| {8})(?! )[\\w\\[\\] ]*?(\\w+)\\([^\n]*\\) \\{\n").matcher(bareSource());
        String code = bareSource();
        while (m.find()) {
            int end = code.indexOf("\n" + m.group(1) + "}", m.end() - 1);
            bodies.merge(m.group(2), code.substring(m.end(), end), String::concat);
        }
        return bodies;
    }

    private static int depth(String name, Map<String, String> bodies, List<String> open) {
        if (open.contains(name)) return Integer.MAX_VALUE / 2;
        List<String> within = new ArrayList<>(open);
        within.add(name);
        int deepest = 0;
        Matcher calls = Pattern.compile("\\b(\\w+)\\(").matcher(bodies.get(name));
        while (calls.find()) {
            boolean own = bodies.containsKey(calls.group(1));
            deepest = Math.max(deepest, own ? depth(calls.group(1), bodies, within) : 1);
        }
        return 1 + deepest;
    }
}
