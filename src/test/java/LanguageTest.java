import java.io.PrintWriter;
import java.io.StringWriter;
import java.lang.reflect.Field;
import java.lang.reflect.Method;
import java.lang.reflect.Modifier;
import java.net.URI;
import java.nio.file.Files;
import java.nio.file.Path;
import java.util.ArrayList;
import java.util.HashMap;
import java.util.HashSet;
import java.util.List;
import java.util.Map;
import java.util.Set;
import java.util.TreeSet;
import java.util.regex.Matcher;
import java.util.regex.Pattern;
import java.util.spi.ToolProvider;

/** What of ../shared/LANGUAGE.md can be seen in the source and in what it compiles to. */
public final class LanguageTest {
    private static final String FACE = "boolean thing(int,int);int person(int,int,int);boolean road(int,int,int);"
            + "int kin(int,int);int way(int,int);int feed(int,int,int,int,int);int end(int);int text();int fault(int);"
            + "int played(int);boolean equalities(int);int pupil(int,int,int,int,int);boolean answer(int);"
            + "int of(int,int);int alike(int,int);int nearly(int,int);int parted(int,int,int);boolean can(int,int);"
            + "int lacks(int,int);int ask(int,int);int why(int,int);int barred(int);int morning(int);int stuck();"
            + "int undo();int asked(int,boolean);int order(int);int shut();int game(int,int,boolean);int left(int);"
            + "long kinds(int,int,int);int fewest(int,int);int shortest(int,int,int);int rarest(int,int,int,int);"
            + "int fair(int,int,int);int unasked(int,int);int hear(int,int);int worlds(int);int knew(int);"
            + "int tell(int,int);int lies();int clash();int image();int back();int about(int)";
    private static final Check C = new Check();

    public static void main(String[] args) throws Exception {
        Class<?> face = AnswersFirst.class;
        List<Class<?>> all = new ArrayList<>(List.of(face.getDeclaredClasses()));
        all.add(face);
        theFace(face);
        classes(face, all);
        source(Files.readString(Path.of("src/main/java/AnswersFirst.java")));
        calls(all);
        C.finish();
    }

    private static void theFace(Class<?> face) {
        Set<String> want = new TreeSet<>(List.of(FACE.split(";")));
        Set<String> got = new TreeSet<>();
        for (Method m : face.getDeclaredMethods()) {
            if (!Modifier.isPrivate(m.getModifiers())) {
                String text = m.toString().replaceFirst("AnswersFirst\\.", "");
                got.add(text.replaceFirst("^public ", ""));
            }
        }
        System.out.println(got.equals(want) ? "the face is the document's" : "the face is " + got);
        C.due(0, "rule 1: the face", got.equals(want), true);
        C.due(0, "rule 1: constructors", face.getConstructors().length, 1);
        for (Field f : face.getDeclaredFields()) {
            boolean none = f.getName().equals("NONE") && Modifier.isPublic(f.getModifiers());
            C.due(0, "rule 1: field " + f.getName(), none || Modifier.isPrivate(f.getModifiers()), true);
        }
    }

    private static void classes(Class<?> face, List<Class<?>> all) {
        Set<String> names = new HashSet<>();
        for (Method m : face.getMethods()) {
            if (m.getDeclaringClass() == face) {
                names.add(m.getName());
            }
        }
        C.due(0, "rule 11: " + all.size() + " classes", all.size() <= 12, true);
        for (Class<?> c : all) {
            int mods = c.getModifiers();
            C.due(0, "rule 2: " + c, Modifier.isFinal(mods) && (c == face || Modifier.isStatic(mods)), true);
            int fields = 0;
            for (Field f : c.getDeclaredFields()) {
                fields += Modifier.isStatic(f.getModifiers()) ? 0 : 1;
                boolean fixed = !Modifier.isStatic(f.getModifiers()) || Modifier.isFinal(f.getModifiers());
                C.due(0, "rule 5: " + f, fixed, true);
            }
            C.due(0, "rule 11: fields of " + c + ": " + fields, fields <= 20, true);
            for (Method m : c.getDeclaredMethods()) {
                C.due(0, "rule 11: " + m, m.getParameterCount() <= 7, true);
                boolean named = Modifier.isPublic(m.getModifiers()) || !names.contains(m.getName());
                C.due(0, "rule 1: the name of " + m, named, true);
            }
        }
    }

    private static void source(String text) {
        String code = text.replaceAll("(?s)/\\*.*?\\*/", "").replaceAll("//[^\n]*", "").replaceAll("\"[^\"\n]*\"", "\"\"");
        String[] banned = {"\\bthrow\\b", "\\btry\\b", "\\bcatch\\b", "\\bsynchronized\\b", "\\bassert\\b", "->", "::",
            "static \\{", "\\bprotected\\b", "\\bnew Object\\b", "hashCode", "toString", "Exact\\(", "System\\.",
            "\\bpackage\\b", "\\binterface\\b", "while \\(true\\)", "for \\(;;"};
        for (String b : banned) {
            C.due(0, "rules 2 to 6, 9: " + b, Pattern.compile(b).matcher(code).find(), false);
        }
        Matcher imports = Pattern.compile("import ([\\w.]+);").matcher(code);
        while (imports.find()) {
            C.due(0, "rule 4: import " + imports.group(1), imports.group(1).equals("java.util.Arrays"), true);
        }
        boolean plain = text.chars().allMatch(c -> c == '\n' || c >= 32 && c < 127);
        C.due(0, "signs of the source", plain, true);
        lengths(text.split("\n"));
    }

    /** A method begins at a line that ends with ") {" and ends at the brace below its first letter. */
    private static void lengths(String[] lines) {
        Pattern head = Pattern.compile("^( {4}| {8})(?!for|if|while|switch|return)\\w[^=;]*\\) \\{$");
        for (int i = 0; i < lines.length; i++) {
            Matcher m = head.matcher(lines[i]);
            if (m.find()) {
                int end = i;
                while (!lines[end].equals(m.group(1) + "}")) {
                    end++;
                }
                C.due(0, "rule 11: lines of " + lines[i].trim(), end - i < 60, true);
            }
        }
    }

    // ---- rule 11: calls that are no recursion go at most eight deep

    private static void calls(List<Class<?>> all) throws Exception {
        Map<String, Set<String>> calls = new HashMap<>();
        for (Class<?> c : all) {
            read(c, calls);
        }
        for (Set<String> to : calls.values()) {
            to.retainAll(calls.keySet());
        }
        Map<String, Set<String>> reach = new HashMap<>();
        for (String m : calls.keySet()) {
            reach.put(m, reached(m, calls));
        }
        int deepest = 0;
        Map<String, Integer> known = new HashMap<>();
        for (String m : calls.keySet()) {
            deepest = Math.max(deepest, depth(m, calls, reach, known));
        }
        System.out.println("calls go " + deepest + " deep");
        C.due(0, "rule 11: depth of calls", deepest > 3 && deepest <= 8, true);
    }

    private static void read(Class<?> c, Map<String, Set<String>> calls) throws Exception {
        String file = c.getName() + ".class";
        URI place = LanguageTest.class.getResource("/" + file).toURI();
        StringWriter out = new StringWriter();
        ToolProvider.findFirst("javap").orElseThrow()
                .run(new PrintWriter(out), new PrintWriter(out), "-c", "-p", Path.of(place).toString());
        String method = null;
        Pattern head = Pattern.compile("^  [^:]*?([\\w$]+)\\(.*\\);$");
        Pattern call = Pattern.compile("invoke\\w+ .*// Method (?:([\\w/$]+)\\.)?\"?([\\w<>]+)\"?:");
        for (String line : out.toString().split("\n")) {
            Matcher m = head.matcher(line);
            if (m.find()) {
                method = c.getName() + "." + (m.group(1).equals(c.getName()) ? "<init>" : m.group(1));
                calls.putIfAbsent(method, new HashSet<>());
            }
            m = call.matcher(line);
            if (m.find() && method != null) {
                calls.get(method).add((m.group(1) == null ? c.getName() : m.group(1)) + "." + m.group(2));
            }
        }
    }

    private static Set<String> reached(String from, Map<String, Set<String>> calls) {
        Set<String> seen = new HashSet<>();
        List<String> open = new ArrayList<>(calls.get(from));
        while (!open.isEmpty()) {
            String m = open.remove(open.size() - 1);
            if (seen.add(m)) {
                open.addAll(calls.get(m));
            }
        }
        return seen;
    }

    /** Methods that reach one another count as one. */
    private static int depth(String m, Map<String, Set<String>> calls, Map<String, Set<String>> reach,
            Map<String, Integer> known) {
        Integer old = known.get(m);
        if (old != null) {
            return old;
        }
        int below = 0;
        Set<String> ring = new HashSet<>(Set.of(m));
        for (String other : reach.get(m)) {
            if (reach.get(other).contains(m)) {
                ring.add(other);
            }
        }
        for (String one : ring) {
            for (String to : calls.get(one)) {
                if (!ring.contains(to)) {
                    below = Math.max(below, depth(to, calls, reach, known));
                }
            }
        }
        known.put(m, below + 1);
        return below + 1;
    }
}
