import java.lang.reflect.Method;
import java.lang.reflect.Modifier;
import java.util.ArrayList;
import java.util.Arrays;
import java.util.HashMap;
import java.util.List;
import java.util.Map;
import java.util.Random;

/** Long runs of drawn calls, each answered by TreadRing and by Model alike. The draws go by fixed seeds. */
public final class FuzzTest {
    private static final int RUNS = 1500;
    private static final int CALLS = 512;

    private static final Map<String, Method> RING = methods(TreadRing.class);
    private static final Map<String, Method> MODEL = methods(Model.class);
    private static final List<String> GETTERS = List.of("runBy", "cheapest", "suits", "root", "weakly", "told",
            "field", "slot", "ring", "many", "page", "grey", "live", "path", "retained", "end", "room", "pace", "game",
            "law", "about", "fault");

    private final Random random;
    private final int run;
    private final TreadRing ring = new TreadRing();
    private final Model model = new Model();
    private final List<String> story = new ArrayList<>();

    private FuzzTest(int run) {
        this.run = run;
        this.random = new Random(run);
    }

    private static Map<String, Method> methods(Class<?> of) {
        Map<String, Method> all = new HashMap<>();
        for (Method m : of.getDeclaredMethods()) {
            if (Modifier.isPublic(m.getModifiers())) {
                all.put(m.getName(), m);
            }
        }
        return all;
    }

    private int draw(int least, int most) {
        return least + random.nextInt(most - least + 1);
    }

    /** Mostly within the bounds, sometimes just outside, seldom anything. */
    private int near(int least, int most) {
        int kind = random.nextInt(60);
        if (kind == 0) {
            return least - 1;
        }
        if (kind == 1) {
            return most + 1;
        }
        if (kind == 2) {
            int[] far = {Integer.MIN_VALUE, Integer.MAX_VALUE, -2, -3, 1000, random.nextInt()};
            return far[random.nextInt(far.length)];
        }
        return draw(least, most);
    }

    private int address() {
        if (random.nextInt(3) > 0) {
            return near(0, 127);
        }
        int root = ring.root(draw(0, 5));
        return root >= 0 ? root : near(0, 127);
    }

    private int size() {
        return random.nextInt(20) == 0 ? near(0, 9) : new int[] {2, 4, 8}[random.nextInt(3)];
    }

    private int[] arguments(String name) {
        switch (name) {
            case "open": return new int[] {near(1, 8)};
            case "make": return new int[] {near(0, 5), near(0, 7)};
            case "load": return new int[] {near(0, 5), near(0, 5), near(0, 3)};
            case "store": return new int[] {near(0, 5), near(0, 3), near(-1, 5)};
            case "copy": return new int[] {near(0, 5), near(-1, 5)};
            case "weak": return new int[] {near(0, 3), near(-1, 5)};
            case "strong": return new int[] {near(0, 5), near(0, 3)};
            case "work": return new int[] {random.nextInt(4) == 0 ? near(1, 500) : near(1, 6)};
            case "turn": {
                int what = near(0, 3);
                return new int[] {what, near(0, what < 2 ? 3 : random.nextInt(3) == 0 ? 16 : 3)};
            }
            case "feed": return new int[] {random.nextInt(), random.nextInt(), random.nextInt(), random.nextInt(), random.nextInt()};
            case "cut": return new int[] {near(0, 400)};
            case "fault": case "law": case "cheapest": return new int[] {near(0, 1)};
            case "runBy": return new int[] {near(0, 3), near(0, 6)};
            case "root": return new int[] {near(0, 5)};
            case "weakly": return new int[] {near(0, 3)};
            case "told": return new int[] {near(0, 16), near(0, 2)};
            case "image": case "back": return new int[] {near(0, 1)};
            case "field": return new int[] {address(), near(0, 6)};
            case "slot": return new int[] {address(), near(0, 5)};
            case "ring": return new int[] {size(), near(0, 20)};
            case "many": return new int[] {size(), near(0, 3)};
            case "page": return new int[] {near(0, 7), near(0, 2)};
            case "grey": return new int[] {near(0, 5)};
            case "live": case "end": return new int[] {near(0, 3)};
            case "path": return new int[] {near(0, 5), address()};
            case "retained": return new int[] {address()};
            case "room": return new int[] {near(0, 7), near(0, 1)};
            case "pace": return new int[] {near(0, 7), near(1, 64)};
            case "game": return new int[] {near(0, 3), near(0, 9999), near(1, 200), near(0, 5)};
            case "about": return new int[] {near(0, 18)};
            default: return new int[0];
        }
    }

    private static long answer(Object of, Method method, int[] arguments) throws Exception {
        Object[] boxed = new Object[arguments.length];
        for (int i = 0; i < boxed.length; i++) {
            boxed[i] = arguments[i];
        }
        Object got = method.invoke(of, boxed);
        return got instanceof Boolean b ? (b ? 1 : 0) : (Integer) got;
    }

    private boolean same(String name, int... arguments) throws Exception {
        String call = name + Arrays.toString(arguments);
        story.add(call);
        long want = answer(model, MODEL.get(name), arguments);
        long got = answer(ring, RING.get(name), arguments);
        if (got != want) {
            System.out.println("run " + run + ": " + call + " answered " + got + ", the model says " + want);
            System.out.println("  behind " + story.subList(Math.max(0, story.size() - 40), story.size()));
            return false;
        }
        return true;
    }

    private String pick(String... words) {
        return words[random.nextInt(words.length)];
    }

    private String letter() {
        return pick("a", "b", "c", "d", "e", "f");
    }

    private String item(int within) {
        int kind = random.nextInt(within < 4 ? 14 : 11);
        switch (kind) {
            case 0: case 1: case 2: return letter() + " = new " + draw(0, 7) + ";";
            case 3: return letter() + "=none;";
            case 4: return letter() + " = " + letter() + " ; ";
            case 5: case 6: return letter() + "=" + letter() + "." + draw(0, 3) + ";";
            case 7: case 8: return letter() + "." + draw(0, 3) + " = " + letter() + ";\n";
            case 9: return letter() + "." + draw(0, 6) + "=none;";
            case 10: return "step " + draw(1, random.nextInt(4) == 0 ? 99 : 5) + ";";
            case 11: case 12: return "times " + draw(2, 9) + "{" + items(within + 1, draw(0, 5)) + "}";
            default: return "if " + letter() + " {" + items(within + 1, draw(0, 4)) + "}";
        }
    }

    private String items(int within, int n) {
        StringBuilder all = new StringBuilder();
        for (int i = 0; i < n; i++) {
            all.append(item(within));
        }
        return all.toString();
    }

    private String text() {
        if (random.nextInt(12) == 0) {
            return "a=b;".repeat(draw(38, 42)) + pick("", "x", "7", "}", "if", "a=", "step 0;");
        }
        StringBuilder text = new StringBuilder(items(0, draw(0, 14)));
        if (random.nextInt(3) == 0 && text.length() > 0) {
            int at = random.nextInt(text.length());
            String odd = pick("", " ", "=", ".", ";", "{", "}", "x", "new", "none", "times", "if", "step", "0", "7", "8",
                    "1000", "0007", "007", "a", "A", "\t", "\u0000", "\u00e9", "times 2{", "if a{");
            text.replace(at, Math.min(text.length(), at + random.nextInt(3)), odd);
        }
        return text.length() > 400 ? text.substring(0, 400) : text.toString();
    }

    private boolean feedText(String text) throws Exception {
        boolean fine = same("cut", 0);
        StringBuilder filled = new StringBuilder(text);
        while (filled.length() % 20 != 0) {
            filled.append(pick(" ", "}", "a"));
        }
        for (int at = 0; at < filled.length(); at += 20) {
            int[] five = new int[5];
            for (int i = 0; i < 20; i++) {
                five[i / 4] = five[i / 4] << 8 | filled.charAt(at + i);
            }
            fine &= same("feed", five);
        }
        story.add("(" + text + ")");
        return fine && same("cut", text.length()) && same("program") && same("fault", 0) && same("fault", 1);
    }

    private boolean sameState() throws Exception {
        boolean fine = true;
        for (int i = 0; i <= 18; i++) {
            fine &= same("about", i);
        }
        for (int i = 0; i < 6; i++) {
            fine &= same("root", i);
        }
        for (int i = 0; i < 4; i++) {
            fine &= same("weakly", i) & same("live", i) & same("end", i);
        }
        for (int i = 0; i < 8; i++) {
            fine &= same("page", i, 0) & same("page", i, 1) & same("grey", i);
        }
        for (int i = 0; i < 16; i++) {
            fine &= same("told", i, 0) & same("told", i, 1) & same("told", i, 2);
        }
        for (int i = 0; i <= 64; i++) {
            fine &= same("ring", 2, i) & same("ring", 4, i) & same("ring", 8, i);
        }
        for (int address = 0; address < 128; address += 2) {
            fine &= same("slot", address, 0) & same("slot", address, 2) & same("retained", address);
            for (int f = 0; f < 7; f++) {
                fine &= same("field", address, f);
            }
        }
        return fine;
    }

    private boolean oneCall() throws Exception {
        int kind = random.nextInt(100);
        if (kind < 30) {
            return same("make", arguments("make"));
        }
        if (kind < 70) {
            String name = pick("load", "load", "store", "store", "store", "copy", "weak", "strong", "start", "work", "turn");
            return same(name, arguments(name));
        }
        if (kind < 74) {
            return feedText(text());
        }
        if (kind < 78) {
            return same("run");
        }
        if (kind < 84) {
            return same(pick("undo", "undo", "redo"));
        }
        if (kind == 84) {
            String name = pick("open", "image", "back", "feed", "cut", "image", "back", "program");
            return same(name, arguments(name));
        }
        String name = GETTERS.get(random.nextInt(GETTERS.size()));
        return same(name, arguments(name));
    }

    /** A ROOT that names an OBJECT with FIELDS (slot() what 2) or one whose FIELDS name some (3), if there is one. */
    private int rootWith(int what) {
        int first = draw(0, 5);
        for (int i = 0; i < 6; i++) {
            int root = (first + i) % 6;
            if (ring.slot(ring.root(root), what) > 0) {
                return root;
            }
        }
        return first;
    }

    private int fieldOf(int root) {
        return draw(0, Math.max(0, ring.slot(ring.root(root), 2) - 1));
    }

    /** Names are moved about while a CYCLE goes on slowly: without a BARRIER, something is LOST now and then. */
    private boolean tangledCall() throws Exception {
        int kind = random.nextInt(20);
        int root = rootWith(kind < 8 ? 3 : 2);
        int other = draw(0, 5);
        if (kind < 5) {
            int field = fieldOf(root);
            return same("load", other, root, field) && same("store", root, field, draw(-1, 0));
        }
        if (kind < 8) {
            return same("load", other, root, fieldOf(root));
        }
        if (kind < 10) {
            return same("store", root, fieldOf(root), draw(-1, 5));
        }
        if (kind < 14) {
            return same("make", other, draw(1, 3)) && same("store", other, fieldOf(other), root) && same("copy", root, other);
        }
        if (kind < 16) {
            return same("start") && same("law", 0) && same("live", 3);
        }
        if (kind < 18) {
            return same("work", draw(1, 3)) && same("law", 0) && same("end", 3);
        }
        return oneCall();
    }

    private boolean tangledRun() throws Exception {
        boolean fine = same("open", draw(2, 8)) && same("turn", 0, draw(1, 5) > 3 ? draw(0, 2) : 3) && same("turn", 1, draw(0, 3))
                && same("turn", 2, draw(0, 1)) && same("turn", 3, draw(0, 2));
        for (int i = 0; i < 12 && fine; i++) {
            fine = same("make", i % 6, draw(1, 3)) && same("store", i % 6, 0, (i + 1) % 6);
        }
        for (int i = 0; i < CALLS / 2 && fine; i++) {
            fine = tangledCall() && (i % 64 != 63 || sameState());
        }
        return fine;
    }

    private boolean wholeRun() throws Exception {
        if (run % 3 == 0) {
            return tangledRun();
        }
        if (random.nextInt(3) > 0 && !same("open", draw(1, 8))) {
            return false;
        }
        boolean set = random.nextInt(4) == 0 || (same("turn", 0, draw(0, 3)) && same("turn", 1, draw(0, 3))
                && same("turn", 2, draw(0, 3)) && same("turn", 3, draw(0, 6)));
        if (!set) {
            return false;
        }
        for (int i = 0; i < CALLS; i++) {
            if (!oneCall() || (i % 64 == 63 && !sameState())) {
                return false;
            }
        }
        return true;
    }

    public static void main(String[] args) throws Exception {
        int runs = args.length > 0 ? Integer.parseInt(args[0]) : RUNS;
        int wrong = 0;
        int losing = 0;
        for (int run = 1; run <= runs && wrong < 5; run++) {
            FuzzTest test = new FuzzTest(run);
            wrong += test.wholeRun() ? 0 : 1;
            losing += test.ring.about(5) > 0 ? 1 : 0;
        }
        System.out.println(losing + " runs LOST something");
        System.out.println(wrong == 0 ? runs + " drawn runs: all answers are the model's" : wrong + " runs went wrong");
        if (wrong != 0) {
            System.exit(1);
        }
    }
}
