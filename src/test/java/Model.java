import java.util.ArrayList;
import java.util.Comparator;
import java.util.HashMap;
import java.util.HashSet;
import java.util.List;
import java.util.Map;
import java.util.Set;
import java.util.TreeMap;

/**
 * The document once more, word for word and without regard to speed, in another form than TreadRing's: RINGS are
 * lists that are searched, OBJECTS know when they were GREYED, a PROGRAM is a tree. FuzzTest compares the two.
 */
public final class Model {
    private static final int FREE = 0;
    private static final int ECRU = 1;
    private static final int GREY = 2;
    private static final int BLACK = 3;

    private static final class Slot {
        int address;
        int size;
        int colour;
        int greyedAt;
        List<Integer> fields = new ArrayList<>();

        Slot twin() {
            Slot s = new Slot();
            s.address = address;
            s.size = size;
            s.colour = colour;
            s.greyedAt = greyedAt;
            s.fields = new ArrayList<>(fields);
            return s;
        }
    }

    private static final class State {
        int pages = 8;
        TreeMap<Integer, Integer> pageSizes = new TreeMap<>();
        TreeMap<Integer, Slot> slots = new TreeMap<>();
        Map<Integer, List<Integer>> rings = new HashMap<>();
        int[] roots = {-1, -1, -1, -1, -1, -1};
        int[] weaks = {-1, -1, -1, -1};
        boolean runs;
        int scanned = -1;
        int looked;
        int clock;
        int barrier;
        int order;
        int pace = 2;
        int threshold = 2;
        int ended;
        int steps;
        int forced;
        int lost;
        int made;
        int cleared;
        int cycleSteps;
        List<int[]> told = new ArrayList<>();

        State() {
            for (int size : new int[] {2, 4, 8}) {
                rings.put(size, new ArrayList<>());
            }
        }

        State twin() {
            State t = new State();
            t.pages = pages;
            t.pageSizes = new TreeMap<>(pageSizes);
            for (Slot s : slots.values()) {
                t.slots.put(s.address, s.twin());
            }
            for (int size : rings.keySet()) {
                t.rings.put(size, new ArrayList<>(rings.get(size)));
            }
            t.roots = roots.clone();
            t.weaks = weaks.clone();
            t.runs = runs;
            t.scanned = scanned;
            t.looked = looked;
            t.clock = clock;
            t.barrier = barrier;
            t.order = order;
            t.pace = pace;
            t.threshold = threshold;
            t.ended = ended;
            t.steps = steps;
            t.forced = forced;
            t.lost = lost;
            t.made = made;
            t.cleared = cleared;
            t.cycleSteps = cycleSteps;
            t.told = new ArrayList<>(told);
            return t;
        }

        List<Slot> coloured(int colour) {
            List<Slot> found = new ArrayList<>();
            for (Slot s : slots.values()) {
                if (s.colour == colour) {
                    found.add(s);
                }
            }
            return found;
        }

        List<Slot> objects() {
            List<Slot> found = new ArrayList<>();
            for (Slot s : slots.values()) {
                if (s.colour != FREE) {
                    found.add(s);
                }
            }
            return found;
        }

        Slot object(int address) {
            Slot s = slots.get(address);
            return s == null || s.colour == FREE ? null : s;
        }

        /** Puts a SLOT ahead of the first one of its RING that has this COLOUR or a later one. */
        void standAheadOf(Slot s, int colour) {
            List<Integer> ring = rings.get(s.size);
            ring.remove(Integer.valueOf(s.address));
            int at = 0;
            while (at < ring.size() && slots.get(ring.get(at)).colour < colour) {
                at++;
            }
            ring.add(at, s.address);
        }

        void greyed(int address) {
            if (address == -1) {
                return;
            }
            Slot s = slots.get(address);
            if (s.colour == ECRU) {
                standAheadOf(s, GREY);
                s.colour = GREY;
                s.greyedAt = clock++;
            }
        }

        void rootsGreyed() {
            for (int r : roots) {
                greyed(r);
            }
        }

        void starts() {
            runs = true;
            cycleSteps = 0;
            for (Slot s : slots.values()) {
                if (s.colour == BLACK) {
                    s.colour = ECRU;
                }
            }
            rootsGreyed();
            if (coloured(GREY).isEmpty()) {
                ends();
            }
        }

        List<Slot> greysInOrder() {
            List<Slot> greys = coloured(GREY);
            Comparator<Slot> first = Comparator.comparingInt(s -> s.greyedAt);
            switch (order) {
                case 0 -> greys.sort(first);
                case 1 -> greys.sort(first.reversed());
                case 2 -> greys.sort(Comparator.<Slot>comparingInt(s -> s.size).thenComparing(first));
                default -> greys.sort(Comparator.comparingInt(s -> s.address));
            }
            if (scanned != -1) {
                Slot s = slots.get(scanned);
                greys.remove(s);
                greys.add(0, s);
            }
            return greys;
        }

        void step() {
            steps++;
            cycleSteps++;
            if (scanned == -1) {
                scanned = greysInOrder().get(0).address;
                looked = 0;
            }
            Slot s = slots.get(scanned);
            if (!s.fields.isEmpty()) {
                greyed(s.fields.get(looked));
                looked++;
            }
            if (looked == s.fields.size()) {
                standAheadOf(s, BLACK);
                s.colour = BLACK;
                scanned = -1;
                looked = 0;
            }
            if (coloured(GREY).isEmpty()) {
                if (barrier == 1) {
                    rootsGreyed();
                }
                if (coloured(GREY).isEmpty()) {
                    ends();
                }
            }
        }

        int stepsAtMost(int n) {
            int done = 0;
            while (runs && done < n) {
                step();
                done++;
            }
            return done;
        }

        int toItsEnd() {
            return stepsAtMost(Integer.MAX_VALUE);
        }

        boolean isEcru(int address) {
            return address != -1 && slots.get(address).colour == ECRU;
        }

        void ends() {
            runs = false;
            for (Slot s : objects()) {
                if (s.colour != ECRU) {
                    for (int f = 0; f < s.fields.size(); f++) {
                        if (isEcru(s.fields.get(f))) {
                            s.fields.set(f, -1);
                            lost++;
                        }
                    }
                }
            }
            for (int r = 0; r < 6; r++) {
                if (isEcru(roots[r])) {
                    roots[r] = -1;
                    lost++;
                }
            }
            for (int w = 0; w < 4; w++) {
                if (isEcru(weaks[w])) {
                    weaks[w] = -1;
                    cleared++;
                }
            }
            List<Slot> dead = coloured(ECRU);
            for (Slot s : dead) {
                s.colour = FREE;
                s.fields.clear();
            }
            ended++;
            told.add(0, new int[] {cycleSteps, dead.size(), objects().size()});
            if (told.size() > 16) {
                told.remove(16);
            }
        }

        Slot firstFree(int size) {
            for (int a : rings.get(size)) {
                if (slots.get(a).colour == FREE) {
                    return slots.get(a);
                }
            }
            return null;
        }

        boolean allFree(int page) {
            for (Slot s : slots.values()) {
                if (s.address / 16 == page && s.colour != FREE) {
                    return false;
                }
            }
            return true;
        }

        Slot look(int size) {
            Slot s = firstFree(size);
            if (s != null) {
                return s;
            }
            int chosen = -1;
            for (int p = pages - 1; p >= 0; p--) {
                if (!pageSizes.containsKey(p)) {
                    chosen = p;
                }
            }
            if (chosen == -1) {
                for (int p = pages - 1; p >= 0; p--) {
                    if (pageSizes.get(p) != size && allFree(p)) {
                        chosen = p;
                    }
                }
            }
            if (chosen == -1) {
                return null;
            }
            for (int a = 16 * chosen; a < 16 * chosen + 16; a++) {
                Slot old = slots.remove(a);
                if (old != null) {
                    rings.get(old.size).remove(Integer.valueOf(a));
                }
            }
            pageSizes.put(chosen, size);
            for (int a = 16 * chosen; a < 16 * chosen + 16; a += size) {
                Slot fresh = new Slot();
                fresh.address = a;
                fresh.size = size;
                slots.put(a, fresh);
                standAheadOf(fresh, ECRU);
            }
            return firstFree(size);
        }

        int makes(int root, int fields) {
            int size = 2;
            while (size <= fields) {
                size *= 2;
            }
            if (runs) {
                stepsAtMost(pace);
            }
            Slot s = look(size);
            if (s == null && runs) {
                forced += toItsEnd();
                s = look(size);
            }
            if (s == null) {
                starts();
                forced += toItsEnd();
                s = look(size);
            }
            if (s == null) {
                return -2;
            }
            standAheadOf(s, BLACK + 1);
            s.colour = BLACK;
            s.fields.clear();
            for (int f = 0; f < fields; f++) {
                s.fields.add(-1);
            }
            roots[root] = s.address;
            made++;
            int free = 0;
            for (int a : rings.get(size)) {
                if (slots.get(a).colour == FREE) {
                    free++;
                }
            }
            if (!runs && free < threshold) {
                starts();
            }
            return s.address;
        }

        boolean hasField(int root, int field) {
            Slot s = object(roots[root]);
            return s != null && field >= 0 && field < s.fields.size();
        }

        int loads(int root, int other, int field) {
            if (!hasField(other, field)) {
                return -2;
            }
            roots[root] = slots.get(roots[other]).fields.get(field);
            if (runs && barrier == 0) {
                greyed(roots[root]);
            }
            return roots[root];
        }

        boolean stores(int root, int field, int other) {
            if (!hasField(root, field)) {
                return false;
            }
            Slot s = slots.get(roots[root]);
            if (runs && barrier == 2) {
                greyed(s.fields.get(field));
            }
            s.fields.set(field, other == -1 ? -1 : roots[other]);
            if (runs && barrier == 1) {
                greyed(s.fields.get(field));
            }
            return true;
        }

        void copies(int root, int other) {
            roots[root] = other == -1 ? -1 : roots[other];
        }

        Set<Integer> reached(int without) {
            Set<Integer> found = new HashSet<>();
            for (int r : roots) {
                reachFrom(r, without, found);
            }
            return found;
        }

        void reachFrom(int address, int without, Set<Integer> found) {
            if (address == -1 || address == without || !found.add(address)) {
                return;
            }
            for (int a : slots.get(address).fields) {
                reachFrom(a, without, found);
            }
        }
    }

    // ---- the PROGRAM

    private static final class Fault extends Exception {
        private static final long serialVersionUID = 1L;
        final int kind;
        final int place;

        Fault(int kind, int place) {
            this.kind = kind;
            this.place = place;
        }
    }

    private static final class Stop extends Exception {
        private static final long serialVersionUID = 1L;
    }

    private record Token(String text, int place) {
        boolean is(String s) {
            return text.equals(s);
        }

        boolean isRoot() {
            return text.matches("[a-f]");
        }

        boolean isNumber() {
            return text.matches("[0-9]+");
        }
    }

    private record Item(String kind, int root, int other, int number, List<Item> inside) {
    }

    private static final class Parser {
        final List<Token> tokens = new ArrayList<>();
        int at = 0;
        int items = 0;

        Parser(String text) {
            var m = java.util.regex.Pattern.compile("[a-z]+|[0-9]+|[^ \n]", java.util.regex.Pattern.DOTALL).matcher(text);
            while (m.find()) {
                tokens.add(new Token(m.group(), m.start()));
            }
            tokens.add(new Token("", text.length()));
        }

        Token now() {
            return tokens.get(at);
        }

        void expect(boolean fits) throws Fault {
            if (!fits) {
                throw new Fault(1, now().place);
            }
        }

        Token next() {
            return tokens.get(at++);
        }

        void sign(String s) throws Fault {
            expect(now().is(s));
            next();
        }

        int root() throws Fault {
            expect(now().isRoot());
            return next().text.charAt(0) - 'a';
        }

        int number(int least, int most) throws Fault {
            expect(now().isNumber());
            Token t = next();
            if (t.text.length() > 3 || Integer.parseInt(t.text) < least || Integer.parseInt(t.text) > most) {
                throw new Fault(2, t.place);
            }
            return Integer.parseInt(t.text);
        }

        List<Item> block(int within) throws Fault {
            List<Item> all = new ArrayList<>();
            while (true) {
                if (within == 0 && now().text.isEmpty()) {
                    return all;
                }
                if (within > 0 && now().is("}")) {
                    next();
                    return all;
                }
                all.add(item(within));
            }
        }

        Item item(int within) throws Fault {
            expect(now().isRoot() || List.of("step", "times", "if").contains(now().text));
            items++;
            if (items > 40 || within > 3) {
                throw new Fault(3, now().place);
            }
            if (now().isRoot()) {
                Item item = naming(root());
                sign(";");
                return item;
            }
            String word = next().text;
            if (word.equals("step")) {
                int n = number(1, 99);
                sign(";");
                return new Item("step", 0, 0, n, List.of());
            }
            int n = word.equals("times") ? number(2, 9) : root();
            sign("{");
            return new Item(word, n, 0, n, block(within + 1));
        }

        Item naming(int r) throws Fault {
            if (now().is(".")) {
                next();
                int f = number(0, 6);
                sign("=");
                return new Item("store", r, rootOrNone(), f, List.of());
            }
            sign("=");
            if (now().is("new")) {
                next();
                return new Item("new", r, 0, number(0, 7), List.of());
            }
            int s = rootOrNone();
            if (s != -1 && now().is(".")) {
                next();
                return new Item("load", r, s, number(0, 6), List.of());
            }
            return new Item("copy", r, s, 0, List.of());
        }

        int rootOrNone() throws Fault {
            if (now().is("none")) {
                next();
                return -1;
            }
            return root();
        }
    }

    private static final class Run {
        final State state;
        int goes = 0;

        Run(State state) {
            this.state = state;
        }

        int all(List<Item> items) {
            try {
                through(items);
            } catch (Stop s) {
                return goes;
            }
            return goes;
        }

        void through(List<Item> items) throws Stop {
            for (Item i : items) {
                if (i.kind.equals("times")) {
                    for (int k = 0; k < i.number; k++) {
                        through(i.inside);
                    }
                } else if (i.kind.equals("if")) {
                    if (state.roots[i.root] != -1) {
                        through(i.inside);
                    }
                } else {
                    go(i);
                }
            }
        }

        void go(Item i) throws Stop {
            boolean last = false;
            switch (i.kind) {
                case "new" -> last = state.makes(i.root, i.number) == -2;
                case "copy" -> state.copies(i.root, i.other);
                case "load" -> {
                    if (state.loads(i.root, i.other, i.number) == -2) {
                        throw new Stop();
                    }
                }
                case "store" -> {
                    if (!state.stores(i.root, i.number, i.other)) {
                        throw new Stop();
                    }
                }
                default -> state.stepsAtMost(i.number);
            }
            goes++;
            if (last || goes == 300) {
                throw new Stop();
            }
        }
    }

    // ---- the face

    private State now = new State();
    private final List<State> undos = new ArrayList<>();
    private final List<State> redos = new ArrayList<>();
    private final State[] boxes = new State[2];
    private final StringBuilder tape = new StringBuilder();
    private List<Item> items = List.of();
    private int itemCount = 0;
    private int faultKind = 0;
    private int faultPlace = -1;

    private void act() {
        undos.add(now.twin());
        if (undos.size() > 20) {
            undos.remove(0);
        }
        redos.clear();
    }

    private static boolean in(int v, int least, int most) {
        return v >= least && v <= most;
    }

    public boolean open(int pages) {
        if (!in(pages, 1, 8)) {
            return false;
        }
        now = new State();
        now.pages = pages;
        undos.clear();
        redos.clear();
        return true;
    }

    public int make(int root, int fields) {
        if (!in(root, 0, 5) || !in(fields, 0, 7)) {
            return -1;
        }
        act();
        return now.makes(root, fields);
    }

    public int load(int root, int other, int field) {
        if (!in(root, 0, 5) || !in(other, 0, 5) || !now.hasField(other, field)) {
            return -2;
        }
        act();
        return now.loads(root, other, field);
    }

    public boolean store(int root, int field, int other) {
        if (!in(root, 0, 5) || !in(other, -1, 5) || !now.hasField(root, field)) {
            return false;
        }
        act();
        return now.stores(root, field, other);
    }

    public boolean copy(int root, int other) {
        if (!in(root, 0, 5) || !in(other, -1, 5)) {
            return false;
        }
        act();
        now.copies(root, other);
        return true;
    }

    public boolean weak(int weak, int root) {
        if (!in(weak, 0, 3) || !in(root, -1, 5)) {
            return false;
        }
        act();
        now.weaks[weak] = root == -1 ? -1 : now.roots[root];
        return true;
    }

    public int strong(int root, int weak) {
        if (!in(weak, 0, 3) || !in(root, 0, 5)) {
            return -2;
        }
        act();
        now.roots[root] = now.weaks[weak];
        if (now.runs && now.barrier != 3) {
            now.greyed(now.roots[root]);
        }
        return now.roots[root];
    }

    public boolean start() {
        if (now.runs) {
            return false;
        }
        act();
        now.starts();
        return true;
    }

    public int work(int steps) {
        if (!now.runs || !in(steps, 1, 500)) {
            return -1;
        }
        act();
        return now.stepsAtMost(steps);
    }

    public int turn(int what, int v) {
        if (!in(what, 0, 3) || !in(v, 0, what < 2 ? 3 : 16) || (what == 0 && now.runs)) {
            return -1;
        }
        act();
        int was = about(8 + what);
        switch (what) {
            case 0 -> now.barrier = v;
            case 1 -> now.order = v;
            case 2 -> now.pace = v;
            default -> now.threshold = v;
        }
        return was;
    }

    public int feed(int a, int b, int c, int d, int e) {
        if (tape.length() + 20 > 400) {
            return -1;
        }
        for (int n : new int[] {a, b, c, d, e}) {
            tape.append((char) (n >>> 24)).append((char) (n >> 16 & 255)).append((char) (n >> 8 & 255)).append((char) (n & 255));
        }
        return tape.length();
    }

    public int cut(int n) {
        if (!in(n, 0, tape.length())) {
            return -1;
        }
        tape.setLength(n);
        return n;
    }

    public int program() {
        Parser parser = new Parser(tape.toString());
        tape.setLength(0);
        try {
            items = parser.block(0);
            itemCount = parser.items;
            faultKind = 0;
            faultPlace = -1;
            return itemCount;
        } catch (Fault f) {
            faultKind = f.kind;
            faultPlace = f.place;
            return -1;
        }
    }

    public int fault(int what) {
        return what == 0 ? faultKind : what == 1 ? faultPlace : -1;
    }

    public int run() {
        if (itemCount == 0) {
            return -1;
        }
        act();
        return new Run(now).all(items);
    }

    /** A State to be tried: its counts begin behind the END of the CYCLE that RUNS. */
    private State apart(int barrier) {
        State t = now.twin();
        t.toItsEnd();
        t.barrier = barrier;
        t.steps = 0;
        t.lost = 0;
        t.forced = 0;
        t.ended = 0;
        t.made = 0;
        return t;
    }

    public int runBy(int barrier, int what) {
        if (!in(barrier, 0, 3) || !in(what, 0, 6) || itemCount == 0) {
            return -1;
        }
        State t = apart(barrier);
        int goes = new Run(t).all(items);
        int[] all = {goes, t.steps, t.lost, t.forced, t.ended, t.objects().size(), t.reached(-1).size()};
        return all[what];
    }

    public int cheapest(int what) {
        if (!in(what, 0, 1) || itemCount == 0) {
            return -1;
        }
        int best = 0;
        for (int b = 1; b <= 2; b++) {
            if (runBy(b, 1) < runBy(best, 1)) {
                best = b;
            }
        }
        return what == 0 ? best : runBy(best, 1);
    }

    public int suits() {
        if (itemCount == 0) {
            return -1;
        }
        for (int p = 0; p <= 16; p++) {
            State t = apart(now.barrier);
            t.pace = p;
            new Run(t).all(items);
            if (t.forced == 0) {
                return p;
            }
        }
        return -1;
    }

    public boolean undo() {
        if (undos.isEmpty()) {
            return false;
        }
        redos.add(now);
        now = undos.remove(undos.size() - 1);
        return true;
    }

    public boolean redo() {
        if (redos.isEmpty()) {
            return false;
        }
        undos.add(now);
        now = redos.remove(redos.size() - 1);
        return true;
    }

    public int root(int root) {
        return in(root, 0, 5) ? now.roots[root] : -2;
    }

    public int weakly(int weak) {
        return in(weak, 0, 3) ? now.weaks[weak] : -2;
    }

    public int told(int i, int what) {
        return in(i, 0, now.told.size() - 1) && in(what, 0, 2) ? now.told.get(i)[what] : -1;
    }

    public int image(int box) {
        if (!in(box, 0, 1)) {
            return -1;
        }
        boxes[box] = now.twin();
        return now.objects().size();
    }

    public int back(int box) {
        if (!in(box, 0, 1) || boxes[box] == null) {
            return -1;
        }
        now = boxes[box].twin();
        undos.clear();
        redos.clear();
        return now.objects().size();
    }

    public int field(int address, int field) {
        Slot s = now.object(address);
        return s == null || !in(field, 0, s.fields.size() - 1) ? -2 : s.fields.get(field);
    }

    public int slot(int address, int what) {
        Slot s = now.slots.get(address);
        if (s == null || !in(what, 0, 5)) {
            return -1;
        }
        int naming = 0;
        for (int f : s.fields) {
            naming += f == -1 ? 0 : 1;
        }
        int[] all = {s.colour, s.size, s.fields.size(), naming, now.scanned == address ? now.looked : 0,
            now.reached(-1).contains(address) ? 1 : 0};
        return all[what];
    }

    public int ring(int size, int i) {
        List<Integer> ring = now.rings.get(size);
        return ring == null || !in(i, 0, ring.size() - 1) ? -1 : ring.get(i);
    }

    public int many(int size, int colour) {
        if (!now.rings.containsKey(size) || !in(colour, 0, 3)) {
            return -1;
        }
        return (int) now.coloured(colour).stream().filter(s -> s.size == size).count();
    }

    public int page(int page, int what) {
        if (!in(page, 0, now.pages - 1) || !in(what, 0, 2)) {
            return -1;
        }
        int free = 0;
        int not = 0;
        for (Slot s : now.slots.values()) {
            if (s.address / 16 == page) {
                free += s.colour == FREE ? 1 : 0;
                not += s.colour == FREE ? 0 : 1;
            }
        }
        return what == 0 ? now.pageSizes.getOrDefault(page, 0) : what == 1 ? free : not;
    }

    public int grey(int i) {
        List<Slot> greys = now.greysInOrder();
        return in(i, 0, greys.size() - 1) ? greys.get(i).address : -1;
    }

    public int live(int what) {
        Set<Integer> reached = now.reached(-1);
        int cells = 0;
        int floating = 0;
        for (Slot s : now.objects()) {
            cells += reached.contains(s.address) ? s.size : 0;
            floating += now.runs && !reached.contains(s.address) && s.colour != ECRU ? 1 : 0;
        }
        int[] all = {reached.size(), cells, now.objects().size() - reached.size(), floating};
        return in(what, 0, 3) ? all[what] : -1;
    }

    public int path(int root, int address) {
        if (!in(root, 0, 5) || now.object(address) == null) {
            return -1;
        }
        Set<Integer> wave = new HashSet<>();
        wave.add(now.roots[root]);
        for (int d = 0; d <= 64; d++) {
            if (wave.contains(address)) {
                return d;
            }
            Set<Integer> further = new HashSet<>();
            for (int a : wave) {
                if (a != -1) {
                    further.addAll(now.slots.get(a).fields);
                }
            }
            wave = further;
        }
        return -1;
    }

    public int retained(int address) {
        Set<Integer> reached = now.reached(-1);
        return reached.contains(address) ? reached.size() - now.reached(address).size() : -1;
    }

    public int end(int what) {
        State t = now.twin();
        if (!t.runs) {
            t.starts();
        }
        t.toItsEnd();
        int cells = 0;
        for (Slot s : now.objects()) {
            cells += t.object(s.address) == null ? s.size : 0;
        }
        int[] all = {t.steps - now.steps, t.told.get(0)[1], cells, t.lost - now.lost};
        return in(what, 0, 3) ? all[what] : -1;
    }

    public int room(int fields, int what) {
        if (!in(fields, 0, 7) || !in(what, 0, 1)) {
            return -1;
        }
        State t = now.twin();
        int made = 0;
        while (made < 64 && t.makes(0, fields) != -2 && (what == 1 || t.forced == now.forced)) {
            made++;
        }
        return made;
    }

    public int pace(int fields, int n) {
        if (!in(fields, 0, 7) || !in(n, 1, 64)) {
            return -1;
        }
        for (int p = 0; p <= 16; p++) {
            State t = now.twin();
            t.pace = p;
            int made = 0;
            for (int i = 0; i < n; i++) {
                made += t.makes(0, fields) == -2 ? 0 : 1;
            }
            if (made == n && t.forced == now.forced) {
                return p;
            }
        }
        return -1;
    }

    public int game(int barrier, int seed, int n, int what) {
        if (!in(barrier, 0, 3) || !in(seed, 0, 9999) || !in(n, 1, 200) || !in(what, 0, 5)) {
            return -1;
        }
        State t = apart(barrier);
        int[] x = {seed};
        for (int i = 0; i < n; i++) {
            int kind = draw(x, 8);
            int r = draw(x, 6);
            int s = draw(x, 6);
            int f = draw(x, 6);
            switch (kind) {
                case 0, 1, 2 -> t.makes(r, f);
                case 3 -> t.loads(r, s, f);
                case 4, 5 -> t.stores(r, f, s);
                case 6 -> t.copies(r, s);
                default -> t.copies(r, -1);
            }
        }
        int[] all = {t.steps, t.lost, t.forced, t.ended, t.made, t.objects().size()};
        return all[what];
    }

    private static int draw(int[] x, int m) {
        x[0] = (137 * x[0] + 71) % 10007;
        return x[0] % m;
    }

    public int law(int what) {
        int black = 0;
        int free = 0;
        for (Slot s : now.objects()) {
            boolean over = false;
            for (int f : s.fields) {
                over |= now.isEcru(f);
                free += f != -1 && now.object(f) == null ? 1 : 0;
            }
            black += s.colour == BLACK && over ? 1 : 0;
        }
        for (int r : now.roots) {
            free += r != -1 && now.object(r) == null ? 1 : 0;
        }
        return what == 0 ? black : what == 1 ? free : -1;
    }

    public int about(int what) {
        int[] all = {now.pages, now.runs ? 1 : 0, now.ended, now.steps, now.forced, now.lost, now.made,
            now.objects().size(), now.barrier, now.order, now.pace, now.threshold, now.scanned, undos.size(),
            redos.size(), now.cleared, now.told.size(), itemCount, tape.length()};
        return in(what, 0, 18) ? all[what] : -2;
    }
}
