import java.io.File;
import java.io.PrintWriter;
import java.io.StringWriter;
import java.lang.reflect.Constructor;
import java.lang.reflect.Field;
import java.lang.reflect.Method;
import java.lang.reflect.Modifier;
import java.net.URL;
import java.nio.file.Files;
import java.nio.file.Path;
import java.util.ArrayList;
import java.util.HashMap;
import java.util.HashSet;
import java.util.List;
import java.util.Map;
import java.util.Set;
import java.util.TreeSet;
import java.util.regex.Matcher;
import java.util.regex.Pattern;
import java.util.spi.ToolProvider;

/** The public face, and those rules of ../shared/LANGUAGE.md that a program can see. */
public final class LanguageTest {
    private static final Path SOURCE = Path.of("src/main/java/TreadRing.java");

    private static final String FACE = """
            boolean open(int)
            int make(int,int)
            int load(int,int,int)
            boolean store(int,int,int)
            boolean copy(int,int)
            boolean weak(int,int)
            int strong(int,int)
            boolean start()
            int work(int)
            int turn(int,int)
            int feed(int,int,int,int,int)
            int cut(int)
            int program()
            int fault(int)
            int run()
            int runBy(int,int)
            int cheapest(int)
            int suits()
            boolean undo()
            boolean redo()
            int root(int)
            int weakly(int)
            int told(int,int)
            int image(int)
            int back(int)
            int field(int,int)
            int slot(int,int)
            int ring(int,int)
            int many(int,int)
            int page(int,int)
            int grey(int)
            int live(int)
            int path(int,int)
            int retained(int)
            int end(int)
            int room(int,int)
            int pace(int,int)
            int game(int,int,int,int)
            int law(int)
            int about(int)
            """;

    private static int wrong = 0;

    private static void check(boolean fine, String what) {
        if (!fine) {
            wrong++;
            System.out.println("not so: " + what);
        }
    }

    private static List<Class<?>> classes() {
        List<Class<?>> all = new ArrayList<>(List.of(TreadRing.class.getDeclaredClasses()));
        all.add(TreadRing.class);
        return all;
    }

    private static void face() {
        Set<String> due = new TreeSet<>(List.of(FACE.strip().split("\n")));
        Set<String> found = new TreeSet<>();
        Set<String> publicNames = new HashSet<>();
        for (Method m : TreadRing.class.getDeclaredMethods()) {
            if (Modifier.isPublic(m.getModifiers())) {
                String types = List.of(m.getParameterTypes()).toString().replaceAll("[\\[\\] ]", "");
                found.add(m.getReturnType() + " " + m.getName() + "(" + types + ")");
                publicNames.add(m.getName());
            }
        }
        check(due.equals(found), "the public methods are those of the document: " + found);
        for (Class<?> c : classes()) {
            for (Method m : c.getDeclaredMethods()) {
                boolean inside = c != TreadRing.class;
                check(inside || Modifier.isPublic(m.getModifiers()) || Modifier.isPrivate(m.getModifiers()), m + " is public or private");
                check(Modifier.isPublic(m.getModifiers()) || !publicNames.contains(m.getName()), m + " has a name of its own");
            }
        }
        Constructor<?>[] made = TreadRing.class.getDeclaredConstructors();
        check(made.length == 1 && Modifier.isPublic(made[0].getModifiers()) && made[0].getParameterCount() == 0, "one constructor");
        check(Modifier.isFinal(TreadRing.class.getModifiers()), "the class is final");
        check(TreadRing.NONE == -1, "NONE is -1");
    }

    private static void members() {
        check(classes().size() <= 12, "at most twelve classes");
        for (Class<?> c : classes()) {
            int fields = 0;
            for (Field f : c.getDeclaredFields()) {
                boolean isStatic = Modifier.isStatic(f.getModifiers());
                fields += isStatic ? 0 : 1;
                check(!isStatic || Modifier.isFinal(f.getModifiers()), f + " is final");
                check(Modifier.isPrivate(f.getModifiers()) || f.getName().equals("NONE"), f + " is private");
            }
            check(fields <= 20, c + " has at most twenty fields");
            check(c == TreadRing.class || Modifier.isStatic(c.getModifiers()), c + " is static");
            for (Method m : c.getDeclaredMethods()) {
                check(m.getParameterCount() <= 7, m + " takes at most seven parameters");
            }
        }
    }

    private static void words() throws Exception {
        String source = Files.readString(SOURCE);
        String code = source.replaceAll("(?s)/\\*.*?\\*/", " ").replaceAll("//[^\n]*", " ");
        for (String word : List.of("throw", "throws", "try", "catch", "synchronized", "assert", "package", "Thread",
                "System\\.(?!arraycopy)\\w+", "Exact", "->", "::", "var", "import (?!java\\.util\\.Arrays;)[^;]*")) {
            String edges = word.matches("\\w+") ? "\\b" + word + "\\b" : word;
            check(!Pattern.compile(edges).matcher(code).find(), "the program does without: " + word);
        }
        for (int i = 0; i < source.length(); i++) {
            char c = source.charAt(i);
            if (c < 1 || c > 126) {
                check(false, "the sign at " + i + " of the source is a plain one");
            }
        }
        int begun = -1;
        String[] lines = source.split("\n");
        for (int i = 0; i < lines.length; i++) {
            if (lines[i].matches("( {4}| {8})[a-z].*\\) \\{")) {
                begun = i;
            } else if (begun >= 0 && lines[i].matches("( {4}| {8})\\}")) {
                check(i - begun < 60, "the method in line " + (begun + 1) + " has at most sixty lines");
                begun = -1;
            }
        }
    }

    // ---- how deep calls go

    private static Map<String, Set<String>> calls() throws Exception {
        URL place = TreadRing.class.getProtectionDomain().getCodeSource().getLocation();
        List<String> arguments = new ArrayList<>(List.of("-c", "-p"));
        for (File f : new File(place.toURI()).listFiles()) {
            if (f.getName().startsWith("TreadRing") && f.getName().endsWith(".class")) {
                arguments.add(f.getPath());
            }
        }
        StringWriter text = new StringWriter();
        PrintWriter out = new PrintWriter(text);
        ToolProvider.findFirst("javap").orElseThrow().run(out, out, arguments.toArray(new String[0]));
        Pattern head = Pattern.compile("^(?:public |private |static |final )*class (\\S+).*\\{$");
        Pattern method = Pattern.compile("^  .*?([\\w$]+)\\(.*\\)(?: throws .*)?;$");
        Pattern call = Pattern.compile("invoke\\w+ .*(?:Interface)?Method ([^:]+):");
        Map<String, Set<String>> all = new HashMap<>();
        String owner = "";
        String caller = "";
        for (String line : text.toString().split("\n")) {
            Matcher m = head.matcher(line);
            if (m.find()) {
                owner = m.group(1);
                continue;
            }
            m = method.matcher(line);
            if (m.find()) {
                caller = owner + "." + (m.group(1).equals(owner) ? "<init>" : m.group(1));
                all.putIfAbsent(caller, new TreeSet<>());
                continue;
            }
            m = call.matcher(line);
            if (m.find()) {
                String called = m.group(1).replace("\"", "");
                all.get(caller).add(called.contains(".") ? called : owner + "." + called);
            }
        }
        return all;
    }

    private static List<String> longest(String from, Map<String, Set<String>> calls, List<String> open) {
        List<String> best = new ArrayList<>();
        open.add(from);
        for (String to : calls.getOrDefault(from, Set.of())) {
            if (!to.endsWith("<init>") && !open.contains(to)) {
                List<String> way = longest(to, calls, open);
                if (way.size() > best.size()) {
                    best = way;
                }
            }
        }
        open.remove(from);
        best = new ArrayList<>(best);
        best.add(0, from);
        return best;
    }

    private static void depth() throws Exception {
        Map<String, Set<String>> calls = calls();
        check(calls.size() > 60, "javap tells the methods");
        for (String from : calls.keySet()) {
            List<String> way = longest(from, calls, new ArrayList<>());
            check(way.size() <= 8, "calls go at most eight deep: " + way);
        }
    }

    public static void main(String[] args) throws Exception {
        face();
        members();
        words();
        depth();
        System.out.println(wrong == 0 ? "the face and the rules hold" : wrong + " rules do not hold");
        if (wrong != 0) {
            System.exit(1);
        }
    }
}
