import java.util.Arrays;

/**
 * A heap whose objects never move, collected by cycles of small steps that are paid for as objects are made.
 * The words in capitals are those of the document (../shared/DOC.md).
 */
public final class TreadRing {
    public static final int NONE = -1;

    private static final int REFUSED = -2;

    private static final int PAGES = 8;
    private static final int PAGE_CELLS = 16;
    private static final int CELLS = 128;
    private static final int LEAST_SIZE = 2;
    private static final int MOST_SIZE = 8;
    private static final int SLOTS = 64;
    private static final int MOST_FIELDS = 7;
    private static final int ROOTS = 6;
    private static final int WEAKS = 4;

    private static final int FREE = 0;
    private static final int ECRU = 1;
    private static final int GREY = 2;
    private static final int BLACK = 3;
    private static final int COLOURS = 4;

    private static final int BARRIER = 0;
    private static final int ORDER = 1;
    private static final int PACE = 2;
    private static final int THRESHOLD = 3;
    private static final int SETTINGS = 4;
    private static final int MOST_CHOICE = 3;
    private static final int MOST_AMOUNT = 16;

    private static final int BY_READING = 0;
    private static final int BY_WRITING = 1;
    private static final int BY_OVERWRITING = 2;
    private static final int NO_BARRIER = 3;

    private static final int ENDED = 0;
    private static final int STEPS = 1;
    private static final int FORCED = 2;
    private static final int LOST = 3;
    private static final int MADE = 4;
    private static final int CLEARED = 5;
    private static final int TALLIES = 6;

    private static final int TOLD = 16;
    private static final int TOLD_PARTS = 3;

    /** No CYCLE takes more than 128 STEPS: each SLOT is BLACK once in it, and it looks at no cell twice. */
    private static final int TO_THE_END = 1_000_000;

    private static final int ACTS = 20;
    private static final int BOXES = 2;
    private static final int TAPE = 400;
    private static final int MOST_MADE = 64;

    private static final int ITEMS = 40;
    private static final int DEPTH = 4;
    private static final int GOES = 300;

    private static final int NEW = 0;
    private static final int COPY = 1;
    private static final int LOAD = 2;
    private static final int STORE = 3;
    private static final int STEP = 4;
    private static final int TIMES = 5;
    private static final int IF = 6;

    /** The HEAP that there is, those ahead of it (UNDO) and behind it (REDO), in a circle. */
    private final Heap[] kept = new Heap[ACTS + 1];
    private int current = 0;
    private int undoable = 0;
    private int redoable = 0;

    private final Heap[] boxes = new Heap[BOXES];
    private final boolean[] boxed = new boolean[BOXES];

    /** Where that is tried of which nothing is done. */
    private final Heap trial = new Heap();
    private final int[] tallyAhead = new int[TALLIES];
    private final Reach reach = new Reach();

    private final int[] tape = new int[TAPE];
    private int taped = 0;

    private final Reader reader = new Reader();
    private Script script = new Script();
    private Script spare = new Script();
    private final Runner runner = new Runner(trial, script);

    public TreadRing() {
        for (int i = 0; i < kept.length; i++) {
            kept[i] = new Heap();
        }
        for (int i = 0; i < BOXES; i++) {
            boxes[i] = new Heap();
        }
    }

    public boolean open(int pages) {
        if (pages < 1 || pages > PAGES) {
            return false;
        }
        heap().clear(pages);
        forgetActs();
        return true;
    }

    public int make(int root, int fields) {
        if (!isRoot(root) || !isFieldCount(fields)) {
            return NONE;
        }
        return act().build(root, fields);
    }

    public int load(int root, int other, int field) {
        if (!isRoot(root) || !isRoot(other) || heap().fieldOfRoot(other, field) == NONE) {
            return REFUSED;
        }
        return act().fetch(root, other, field);
    }

    public boolean store(int root, int field, int other) {
        if (!isRoot(root) || !isRootOrNone(other) || heap().fieldOfRoot(root, field) == NONE) {
            return false;
        }
        act().put(root, field, other);
        return true;
    }

    public boolean copy(int root, int other) {
        if (!isRoot(root) || !isRootOrNone(other)) {
            return false;
        }
        Heap heap = act();
        heap.roots[root] = heap.rootOrNone(other);
        return true;
    }

    public boolean weak(int weak, int root) {
        if (!isWeak(weak) || !isRootOrNone(root)) {
            return false;
        }
        Heap heap = act();
        heap.weaks[weak] = heap.rootOrNone(root);
        return true;
    }

    public int strong(int root, int weak) {
        if (!isRoot(root) || !isWeak(weak)) {
            return REFUSED;
        }
        return act().strengthen(root, weak);
    }

    public boolean start() {
        if (heap().running) {
            return false;
        }
        act().begin();
        return true;
    }

    public int work(int steps) {
        if (!heap().running || steps < 1 || steps > 500) {
            return NONE;
        }
        return act().advance(steps);
    }

    public int turn(int what, int v) {
        if (what < 0 || what >= SETTINGS || v < 0) {
            return NONE;
        }
        int most = what == BARRIER || what == ORDER ? MOST_CHOICE : MOST_AMOUNT;
        if (v > most || (what == BARRIER && heap().running)) {
            return NONE;
        }
        Heap heap = act();
        int was = heap.settings[what];
        heap.settings[what] = v;
        return was;
    }

    public int feed(int a, int b, int c, int d, int e) {
        if (taped + 20 > TAPE) {
            return NONE;
        }
        feedFour(a);
        feedFour(b);
        feedFour(c);
        feedFour(d);
        feedFour(e);
        return taped;
    }

    public int cut(int n) {
        if (n < 0 || n > taped) {
            return NONE;
        }
        taped = n;
        return n;
    }

    public int program() {
        int length = taped;
        taped = 0;
        reader.read(tape, length, spare);
        if (reader.fault != 0) {
            return NONE;
        }
        Script before = script;
        script = spare;
        spare = before;
        return script.items;
    }

    public int fault(int what) {
        if (what == 0) {
            return reader.fault;
        }
        return what == 1 ? reader.place : NONE;
    }

    public int run() {
        if (script.items == 0) {
            return NONE;
        }
        runner.prepare(act(), script);
        runner.goThrough(0, script.items, 0);
        return runner.goes;
    }

    public int runBy(int barrier, int what) {
        if (barrier < BY_READING || barrier > NO_BARRIER || what < 0 || what > 6 || script.items == 0) {
            return NONE;
        }
        runApart(barrier, heap().settings[PACE]);
        switch (what) {
            case 0:
                return runner.goes;
            case 1:
                return onTrial(STEPS);
            case 2:
                return onTrial(LOST);
            case 3:
                return onTrial(FORCED);
            case 4:
                return onTrial(ENDED);
            case 5:
                return trial.objects();
            default:
                reach.spread(trial, 0, ROOTS, NONE);
                return reach.found;
        }
    }

    public int cheapest(int what) {
        if (what < 0 || what > 1 || script.items == 0) {
            return NONE;
        }
        int best = NONE;
        int fewest = 0;
        for (int barrier = BY_READING; barrier <= BY_OVERWRITING; barrier++) {
            runApart(barrier, heap().settings[PACE]);
            int steps = onTrial(STEPS);
            if (best == NONE || steps < fewest) {
                best = barrier;
                fewest = steps;
            }
        }
        return what == 0 ? best : fewest;
    }

    public int suits() {
        if (script.items == 0) {
            return NONE;
        }
        for (int pace = 0; pace <= MOST_AMOUNT; pace++) {
            runApart(heap().settings[BARRIER], pace);
            if (onTrial(FORCED) == 0) {
                return pace;
            }
        }
        return NONE;
    }

    public boolean undo() {
        if (undoable == 0) {
            return false;
        }
        current = (current + ACTS) % kept.length;
        undoable--;
        redoable++;
        return true;
    }

    public boolean redo() {
        if (redoable == 0) {
            return false;
        }
        current = (current + 1) % kept.length;
        undoable++;
        redoable--;
        return true;
    }

    public int root(int root) {
        return isRoot(root) ? heap().roots[root] : REFUSED;
    }

    public int weakly(int weak) {
        return isWeak(weak) ? heap().weaks[weak] : REFUSED;
    }

    public int told(int i, int what) {
        if (i < 0 || i >= heap().toldCycles() || what < 0 || what >= TOLD_PARTS) {
            return NONE;
        }
        return heap().toldPart(i, what);
    }

    public int image(int box) {
        if (box < 0 || box >= BOXES) {
            return NONE;
        }
        boxes[box].become(heap());
        boxed[box] = true;
        return heap().objects();
    }

    public int back(int box) {
        if (box < 0 || box >= BOXES || !boxed[box]) {
            return NONE;
        }
        heap().become(boxes[box]);
        forgetActs();
        return heap().objects();
    }

    public int field(int address, int field) {
        int cell = heap().fieldCell(address, field);
        return cell == NONE ? REFUSED : heap().cells[cell];
    }

    public int slot(int address, int what) {
        Heap heap = heap();
        int colour = heap.rings.colourAt(address);
        if (colour == NONE) {
            return NONE;
        }
        switch (what) {
            case 0:
                return colour;
            case 1:
                return heap.sizeAt(address);
            case 2:
                return colour == FREE ? 0 : heap.cells[address];
            case 3:
                return heap.namedBy(address);
            case 4:
                return address == heap.scanned ? heap.looked : 0;
            case 5:
                reach.spread(heap, 0, ROOTS, NONE);
                return reach.far[address] == NONE ? 0 : 1;
            default:
                return NONE;
        }
    }

    public int ring(int size, int i) {
        if (!isSize(size) || i < 0) {
            return NONE;
        }
        return heap().rings.addressAt(size, i);
    }

    public int many(int size, int colour) {
        if (!isSize(size) || colour < FREE || colour > BLACK) {
            return NONE;
        }
        return heap().rings.count(Rings.row(size, colour));
    }

    public int page(int page, int what) {
        Heap heap = heap();
        if (page < 0 || page >= heap.pages) {
            return NONE;
        }
        int size = heap.sizes[page];
        switch (what) {
            case 0:
                return size;
            case 1:
                return size == 0 ? 0 : PAGE_CELLS / size - heap.used[page];
            case 2:
                return heap.used[page];
            default:
                return NONE;
        }
    }

    public int grey(int i) {
        return i < 0 ? NONE : heap().greyAt(i);
    }

    public int live(int what) {
        if (what < 0 || what > 3) {
            return NONE;
        }
        Heap heap = heap();
        reach.spread(heap, 0, ROOTS, NONE);
        switch (what) {
            case 0:
                return reach.found;
            case 1:
                return reach.foundCells(heap);
            case 2:
                return heap.objects() - reach.found;
            default:
                return heap.running ? reach.floating(heap) : 0;
        }
    }

    public int path(int root, int address) {
        if (!isRoot(root) || !heap().isObject(address)) {
            return NONE;
        }
        reach.spread(heap(), root, root + 1, NONE);
        return reach.far[address];
    }

    public int retained(int address) {
        if (!heap().isObject(address)) {
            return NONE;
        }
        reach.spread(heap(), 0, ROOTS, NONE);
        if (reach.far[address] == NONE) {
            return NONE;
        }
        int all = reach.found;
        reach.spread(heap(), 0, ROOTS, address);
        return all - reach.found;
    }

    public int end(int what) {
        if (what < 0 || what > 3) {
            return NONE;
        }
        beginTrial();
        if (!trial.running) {
            trial.begin();
        }
        trial.advance(TO_THE_END);
        switch (what) {
            case 0:
                return onTrial(STEPS);
            case 1:
                return heap().objects() - trial.objects();
            case 2:
                return heap().objectCells() - trial.objectCells();
            default:
                return onTrial(LOST);
        }
    }

    public int room(int fields, int what) {
        if (!isFieldCount(fields) || what < 0 || what > 1) {
            return NONE;
        }
        beginTrial();
        return makeOnTrial(fields, MOST_MADE, what == 1);
    }

    public int pace(int fields, int n) {
        if (!isFieldCount(fields) || n < 1 || n > MOST_MADE) {
            return NONE;
        }
        for (int pace = 0; pace <= MOST_AMOUNT; pace++) {
            beginTrial();
            trial.settings[PACE] = pace;
            if (makeOnTrial(fields, n, false) == n) {
                return pace;
            }
        }
        return NONE;
    }

    public int game(int barrier, int seed, int n, int what) {
        if (barrier < BY_READING || barrier > NO_BARRIER || seed < 0 || seed > 9_999) {
            return NONE;
        }
        if (n < 1 || n > 200 || what < 0 || what > 5) {
            return NONE;
        }
        beginApart(barrier);
        playOnTrial(seed, n);
        switch (what) {
            case 0:
                return onTrial(STEPS);
            case 1:
                return onTrial(LOST);
            case 2:
                return onTrial(FORCED);
            case 3:
                return onTrial(ENDED);
            case 4:
                return onTrial(MADE);
            default:
                return trial.objects();
        }
    }

    public int law(int what) {
        if (what == 0) {
            return heap().blackOverEcru();
        }
        return what == 1 ? heap().namesOfFree() : NONE;
    }

    public int about(int what) {
        Heap heap = heap();
        if (what >= 2 && what <= 6) {
            return heap.tally[what - 2];
        }
        if (what >= 8 && what <= 11) {
            return heap.settings[what - 8];
        }
        switch (what) {
            case 0:
                return heap.pages;
            case 1:
                return heap.running ? 1 : 0;
            case 7:
                return heap.objects();
            case 12:
                return heap.scanned;
            case 13:
                return undoable;
            case 14:
                return redoable;
            case 15:
                return heap.tally[CLEARED];
            case 16:
                return heap.toldCycles();
            case 17:
                return script.items;
            case 18:
                return taped;
            default:
                return REFUSED;
        }
    }

    private Heap heap() {
        return kept[current];
    }

    /** The HEAP for an ACT, which goes on in the next place of the circle, so that the one ahead stays as it was. */
    private Heap act() {
        Heap before = kept[current];
        current = (current + 1) % kept.length;
        kept[current].become(before);
        undoable = Math.min(undoable + 1, ACTS);
        redoable = 0;
        return kept[current];
    }

    private void forgetActs() {
        undoable = 0;
        redoable = 0;
    }

    private void feedFour(int number) {
        for (int shift = 24; shift >= 0; shift -= 8) {
            tape[taped] = (number >>> shift) & 255;
            taped++;
        }
    }

    private void beginTrial() {
        trial.become(heap());
        noteTrial();
    }

    private void noteTrial() {
        System.arraycopy(trial.tally, 0, tallyAhead, 0, TALLIES);
    }

    private int onTrial(int what) {
        return trial.tally[what] - tallyAhead[what];
    }

    /** The CYCLE ends by the BARRIER that it began with; only what comes behind that counts. */
    private void beginApart(int barrier) {
        trial.become(heap());
        trial.advance(TO_THE_END);
        trial.settings[BARRIER] = barrier;
        noteTrial();
    }

    private void runApart(int barrier, int pace) {
        beginApart(barrier);
        trial.settings[PACE] = pace;
        runner.prepare(trial, script);
        runner.goThrough(0, script.items, 0);
    }

    private int makeOnTrial(int fields, int most, boolean byForce) {
        for (int made = 0; made < most; made++) {
            int address = trial.build(0, fields);
            if (address == REFUSED || (!byForce && onTrial(FORCED) > 0)) {
                return made;
            }
        }
        return most;
    }

    private void playOnTrial(int seed, int n) {
        int x = seed;
        for (int i = 0; i < n; i++) {
            x = drawn(x);
            int kind = x % 8;
            x = drawn(x);
            int r = x % ROOTS;
            x = drawn(x);
            int s = x % ROOTS;
            x = drawn(x);
            int f = x % 6;
            if (kind <= 2) {
                trial.build(r, f);
            } else if (kind == 3) {
                trial.fetch(r, s, f);
            } else if (kind <= 5) {
                trial.put(r, f, s);
            } else {
                trial.roots[r] = kind == 6 ? trial.roots[s] : NONE;
            }
        }
    }

    private static int drawn(int x) {
        return (137 * x + 71) % 10_007;
    }

    private static boolean isRoot(int root) {
        return root >= 0 && root < ROOTS;
    }

    private static boolean isRootOrNone(int root) {
        return root == NONE || isRoot(root);
    }

    private static boolean isWeak(int weak) {
        return weak >= 0 && weak < WEAKS;
    }

    private static boolean isFieldCount(int fields) {
        return fields >= 0 && fields <= MOST_FIELDS;
    }

    private static boolean isSize(int size) {
        return size == LEAST_SIZE || size == 4 || size == MOST_SIZE;
    }

    /**
     * The SLOTS of each SIZE in four rows, one for each COLOUR: these, one behind another, are its RING.
     * A row is a circle of nodes (two cells each have one) through a head of its own.
     */
    private static final class Rings {
        private static final int OUTSIDE = 12;
        private static final int ROWS = 13;

        private final int[] next = new int[SLOTS + ROWS];
        private final int[] prev = new int[SLOTS + ROWS];
        private final int[] rowOf = new int[SLOTS];
        private final int[] counts = new int[ROWS];

        Rings() {
            clear();
        }

        static int row(int size, int colour) {
            return size / 4 * COLOURS + colour;
        }

        void clear() {
            for (int node = 0; node < next.length; node++) {
                next[node] = node;
                prev[node] = node;
            }
            Arrays.fill(rowOf, OUTSIDE);
            Arrays.fill(counts, 0);
            counts[OUTSIDE] = SLOTS;
        }

        void become(Rings other) {
            System.arraycopy(other.next, 0, next, 0, next.length);
            System.arraycopy(other.prev, 0, prev, 0, prev.length);
            System.arraycopy(other.rowOf, 0, rowOf, 0, rowOf.length);
            System.arraycopy(other.counts, 0, counts, 0, counts.length);
        }

        /** NONE if no SLOT begins there. */
        int colourAt(int address) {
            if (address < 0 || address >= CELLS || address % 2 != 0 || rowOf[address / 2] == OUTSIDE) {
                return NONE;
            }
            return rowOf[address / 2] % COLOURS;
        }

        int count(int row) {
            return counts[row];
        }

        /** Of a row that is not empty. */
        int first(int row) {
            return 2 * next[SLOTS + row];
        }

        int addressAt(int size, int i) {
            int left = i;
            for (int colour = FREE; colour <= BLACK; colour++) {
                int row = row(size, colour);
                if (left < counts[row]) {
                    int node = next[SLOTS + row];
                    for (int k = 0; k < left; k++) {
                        node = next[node];
                    }
                    return 2 * node;
                }
                left -= counts[row];
            }
            return NONE;
        }

        /** Out of its row into another one: ahead of all that stand there, or behind them. */
        void move(int address, int row, boolean ahead) {
            int node = address / 2;
            next[prev[node]] = next[node];
            prev[next[node]] = prev[node];
            counts[rowOf[node]]--;
            int head = SLOTS + row;
            int left = ahead ? head : prev[head];
            int right = next[left];
            next[left] = node;
            prev[node] = left;
            next[node] = right;
            prev[right] = node;
            rowOf[node] = row;
            counts[row]++;
        }
    }

    /** All that UNDO takes back and a BOX keeps. */
    private static final class Heap {
        private final Rings rings = new Rings();
        /** The first cell of a SLOT tells how many FIELDS its OBJECT has (NONE: it is FREE); then these stand. */
        private final int[] cells = new int[CELLS];
        private final int[] sizes = new int[PAGES];
        private final int[] used = new int[PAGES];
        private final int[] roots = new int[ROOTS];
        private final int[] weaks = new int[WEAKS];
        /** GREY ones that were not taken yet, as they were GREYED. */
        private final int[] greys = new int[SLOTS];
        private final int[] settings = new int[SETTINGS];
        private final int[] tally = new int[TALLIES];
        private final int[] log = new int[TOLD * TOLD_PARTS];
        private int pages;
        private int waiting;
        private int scanned;
        private int looked;
        private int stepsAhead;
        private boolean running;

        Heap() {
            clear(PAGES);
        }

        void clear(int newPages) {
            rings.clear();
            Arrays.fill(cells, NONE);
            Arrays.fill(sizes, 0);
            Arrays.fill(used, 0);
            Arrays.fill(roots, NONE);
            Arrays.fill(weaks, NONE);
            Arrays.fill(tally, 0);
            settings[BARRIER] = BY_READING;
            settings[ORDER] = 0;
            settings[PACE] = 2;
            settings[THRESHOLD] = 2;
            pages = newPages;
            waiting = 0;
            scanned = NONE;
            looked = 0;
            stepsAhead = 0;
            running = false;
        }

        void become(Heap other) {
            rings.become(other.rings);
            System.arraycopy(other.cells, 0, cells, 0, cells.length);
            System.arraycopy(other.sizes, 0, sizes, 0, sizes.length);
            System.arraycopy(other.used, 0, used, 0, used.length);
            System.arraycopy(other.roots, 0, roots, 0, roots.length);
            System.arraycopy(other.weaks, 0, weaks, 0, weaks.length);
            System.arraycopy(other.greys, 0, greys, 0, greys.length);
            System.arraycopy(other.settings, 0, settings, 0, settings.length);
            System.arraycopy(other.tally, 0, tally, 0, tally.length);
            System.arraycopy(other.log, 0, log, 0, log.length);
            pages = other.pages;
            waiting = other.waiting;
            scanned = other.scanned;
            looked = other.looked;
            stepsAhead = other.stepsAhead;
            running = other.running;
        }

        boolean isObject(int address) {
            return rings.colourAt(address) > FREE;
        }

        int sizeAt(int address) {
            return sizes[address / PAGE_CELLS];
        }

        int rootOrNone(int root) {
            return root == NONE ? NONE : roots[root];
        }

        /** The cell of a FIELD; NONE if there is no such OBJECT or FIELD. */
        int fieldCell(int address, int field) {
            if (rings.colourAt(address) <= FREE || field < 0 || field >= cells[address]) {
                return NONE;
            }
            return address + 1 + field;
        }

        int fieldOfRoot(int root, int field) {
            return fieldCell(roots[root], field);
        }

        /** START. */
        void begin() {
            running = true;
            stepsAhead = tally[STEPS];
            for (int size = LEAST_SIZE; size <= MOST_SIZE; size *= 2) {
                int black = Rings.row(size, BLACK);
                for (int left = rings.count(black); left > 0; left--) {
                    rings.move(rings.first(black), Rings.row(size, ECRU), false);
                }
            }
            shade(roots, 0, ROOTS);
            if (waiting == 0) {
                finish();
            }
        }

        /** What is named there, from one place to ahead of another, is GREYED. */
        private void shade(int[] names, int from, int to) {
            for (int i = from; i < to; i++) {
                int address = names[i];
                if (rings.colourAt(address) == ECRU) {
                    rings.move(address, Rings.row(sizeAt(address), GREY), true);
                    greys[waiting] = address;
                    waiting++;
                }
            }
        }

        /** STEPS, so many at most, while a CYCLE RUNS: how many were done. */
        int advance(int most) {
            int done = 0;
            while (running && done < most) {
                done++;
                tally[STEPS]++;
                if (scanned == NONE) {
                    take();
                }
                if (looked < cells[scanned]) {
                    looked++;
                    shade(cells, scanned + looked, scanned + looked + 1);
                }
                if (looked >= cells[scanned]) {
                    rings.move(scanned, Rings.row(sizeAt(scanned), BLACK), true);
                    scanned = NONE;
                    looked = 0;
                    if (waiting == 0 && settings[BARRIER] == BY_WRITING) {
                        shade(roots, 0, ROOTS);
                    }
                    if (waiting == 0) {
                        finish();
                    }
                }
            }
            return done;
        }

        /** A CYCLE that RUNS has a GREY one always, so that there is one to take. */
        private void take() {
            int best = 0;
            for (int i = 1; i < waiting; i++) {
                if (goesAhead(i, best)) {
                    best = i;
                }
            }
            scanned = greys[best];
            looked = 0;
            waiting--;
            for (int i = best; i < waiting; i++) {
                greys[i] = greys[i + 1];
            }
        }

        private boolean goesAhead(int i, int k) {
            switch (settings[ORDER]) {
                case 1:
                    return i > k;
                case 2:
                    int size = sizes[greys[i] / PAGE_CELLS];
                    int otherSize = sizes[greys[k] / PAGE_CELLS];
                    return size < otherSize || (size == otherSize && i < k);
                case 3:
                    return greys[i] < greys[k];
                default:
                    return i < k;
            }
        }

        /** The END. */
        private void finish() {
            running = false;
            int freed = 0;
            for (int size = LEAST_SIZE; size <= MOST_SIZE; size *= 2) {
                int ecru = Rings.row(size, ECRU);
                for (int left = rings.count(ecru); left > 0; left--) {
                    int address = rings.first(ecru);
                    rings.move(address, Rings.row(size, FREE), false);
                    cells[address] = NONE;
                    used[address / PAGE_CELLS]--;
                    freed++;
                }
            }
            for (int address = 0; address < CELLS; address += LEAST_SIZE) {
                if (rings.colourAt(address) > FREE) {
                    tally[LOST] += forget(cells, address + 1, address + 1 + cells[address]);
                }
            }
            tally[LOST] += forget(roots, 0, ROOTS);
            tally[CLEARED] += forget(weaks, 0, WEAKS);
            int entry = tally[ENDED] % TOLD * TOLD_PARTS;
            log[entry] = tally[STEPS] - stepsAhead;
            log[entry + 1] = freed;
            log[entry + 2] = objects();
            tally[ENDED]++;
        }

        /** Names of what came FREE name none then: how many did. No name outlives its OBJECT, so none is older. */
        private int forget(int[] names, int from, int to) {
            int forgotten = 0;
            for (int i = from; i < to; i++) {
                if (names[i] != NONE && cells[names[i]] == NONE) {
                    names[i] = NONE;
                    forgotten++;
                }
            }
            return forgotten;
        }

        /** An OBJECT is MADE for a ROOT: its ADDRESS; REFUSED if it can't be. */
        int build(int root, int fields) {
            int size = fields < 2 ? LEAST_SIZE : fields < 4 ? 4 : MOST_SIZE;
            advance(settings[PACE]);
            int address = findSlot(size);
            if (address == NONE) {
                tally[FORCED] += advance(TO_THE_END);
                address = findSlot(size);
            }
            if (address == NONE) {
                begin();
                tally[FORCED] += advance(TO_THE_END);
                address = findSlot(size);
            }
            if (address == NONE) {
                return REFUSED;
            }
            rings.move(address, Rings.row(size, BLACK), false);
            cells[address] = fields;
            Arrays.fill(cells, address + 1, address + 1 + fields, NONE);
            used[address / PAGE_CELLS]++;
            roots[root] = address;
            tally[MADE]++;
            if (!running && rings.count(Rings.row(size, FREE)) < settings[THRESHOLD]) {
                begin();
            }
            return address;
        }

        /** The first FREE SLOT of a SIZE, for which a PAGE may come to be of this SIZE; NONE if there is none. */
        private int findSlot(int size) {
            int free = Rings.row(size, FREE);
            if (rings.count(free) == 0) {
                int page = findPage(size);
                if (page == NONE) {
                    return NONE;
                }
                resize(page, size);
            }
            return rings.first(free);
        }

        private int findPage(int size) {
            for (int page = 0; page < pages; page++) {
                if (sizes[page] == 0) {
                    return page;
                }
            }
            for (int page = 0; page < pages; page++) {
                if (sizes[page] != size && used[page] == 0) {
                    return page;
                }
            }
            return NONE;
        }

        /** All its SLOTS are FREE, or it has none: those of the new SIZE begin where a multiple of it stands. */
        private void resize(int page, int size) {
            sizes[page] = size;
            for (int cell = 0; cell < PAGE_CELLS; cell += LEAST_SIZE) {
                boolean begins = (cell & (size - 1)) == 0;
                int address = page * PAGE_CELLS + cell;
                rings.move(address, begins ? Rings.row(size, FREE) : Rings.OUTSIDE, false);
                cells[address] = NONE;
            }
        }

        /** load(): REFUSED, doing nothing, if there is no such FIELD. */
        int fetch(int root, int other, int field) {
            int cell = fieldOfRoot(other, field);
            if (cell == NONE) {
                return REFUSED;
            }
            roots[root] = cells[cell];
            if (settings[BARRIER] == BY_READING) {
                shade(roots, root, root + 1);
            }
            return roots[root];
        }

        /** store(): false, doing nothing, if there is no such FIELD. */
        boolean put(int root, int field, int other) {
            int cell = fieldOfRoot(root, field);
            if (cell == NONE) {
                return false;
            }
            if (settings[BARRIER] == BY_OVERWRITING) {
                shade(cells, cell, cell + 1);
            }
            cells[cell] = rootOrNone(other);
            if (settings[BARRIER] == BY_WRITING) {
                shade(cells, cell, cell + 1);
            }
            return true;
        }

        /** strong(). */
        int strengthen(int root, int weak) {
            roots[root] = weaks[weak];
            if (settings[BARRIER] != NO_BARRIER) {
                shade(roots, root, root + 1);
            }
            return roots[root];
        }

        int greyAt(int i) {
            if (scanned != NONE && i == 0) {
                return scanned;
            }
            int rank = scanned == NONE ? i : i - 1;
            for (int k = 0; k < waiting; k++) {
                int ahead = 0;
                for (int other = 0; other < waiting; other++) {
                    if (goesAhead(other, k)) {
                        ahead++;
                    }
                }
                if (ahead == rank) {
                    return greys[k];
                }
            }
            return NONE;
        }

        int objects() {
            int objects = 0;
            for (int page = 0; page < pages; page++) {
                objects += used[page];
            }
            return objects;
        }

        int objectCells() {
            int all = 0;
            for (int page = 0; page < pages; page++) {
                all += used[page] * sizes[page];
            }
            return all;
        }

        int toldCycles() {
            return Math.min(tally[ENDED], TOLD);
        }

        /** Of the i-th latest of those that are TOLD. */
        int toldPart(int i, int what) {
            return log[(tally[ENDED] - 1 - i) % TOLD * TOLD_PARTS + what];
        }

        int namedBy(int address) {
            int named = 0;
            for (int field = 0; field < cells[address]; field++) {
                if (cells[address + 1 + field] != NONE) {
                    named++;
                }
            }
            return named;
        }

        int blackOverEcru() {
            int black = 0;
            for (int address = 0; address < CELLS; address += LEAST_SIZE) {
                if (rings.colourAt(address) == BLACK
                        && namesOf(ECRU, cells, address + 1, address + 1 + cells[address]) > 0) {
                    black++;
                }
            }
            return black;
        }

        int namesOfFree() {
            int names = namesOf(FREE, roots, 0, ROOTS);
            for (int address = 0; address < CELLS; address += LEAST_SIZE) {
                if (isObject(address)) {
                    names += namesOf(FREE, cells, address + 1, address + 1 + cells[address]);
                }
            }
            return names;
        }

        private int namesOf(int colour, int[] names, int from, int to) {
            int found = 0;
            for (int i = from; i < to; i++) {
                if (rings.colourAt(names[i]) == colour) {
                    found++;
                }
            }
            return found;
        }
    }

    /** Which OBJECTS are REACHED, and by how many FIELDS at least. */
    private static final class Reach {
        private final int[] far = new int[CELLS];
        private final int[] queue = new int[SLOTS];
        private int found = 0;

        /** From some ROOTS on (the last one not among them), as if one OBJECT (NONE: none) were not there. */
        void spread(Heap heap, int fromRoot, int toRoot, int without) {
            Arrays.fill(far, NONE);
            found = 0;
            if (without != NONE) {
                far[without] = 0;
            }
            for (int root = fromRoot; root < toRoot; root++) {
                visit(heap.roots[root], 0);
            }
            for (int i = 0; i < found; i++) {
                int address = queue[i];
                for (int field = 0; field < heap.cells[address]; field++) {
                    visit(heap.cells[address + 1 + field], far[address] + 1);
                }
            }
        }

        private void visit(int address, int distance) {
            if (address != NONE && far[address] == NONE) {
                far[address] = distance;
                queue[found] = address;
                found++;
            }
        }

        int foundCells(Heap heap) {
            int all = 0;
            for (int i = 0; i < found; i++) {
                all += heap.sizeAt(queue[i]);
            }
            return all;
        }

        /** Those that this CYCLE leaves, though they are not REACHED. */
        int floating(Heap heap) {
            int floating = 0;
            for (int address = 0; address < CELLS; address += LEAST_SIZE) {
                if (heap.rings.colourAt(address) > ECRU && far[address] == NONE) {
                    floating++;
                }
            }
            return floating;
        }
    }

    /** The ITEMS of a PROGRAM as they stand in the text; those in a block come behind it, up to its end. */
    private static final class Script {
        private final int[] kinds = new int[ITEMS];
        private final int[] roots = new int[ITEMS];
        private final int[] others = new int[ITEMS];
        private final int[] numbers = new int[ITEMS];
        private final int[] ends = new int[ITEMS];
        private int items = 0;

        void add(int kind, int root, int other, int number) {
            if (items < ITEMS) {
                kinds[items] = kind;
                roots[items] = root;
                others[items] = other;
                numbers[items] = number;
                items++;
                ends[items - 1] = items;
            }
        }
    }

    /** Reads a text as a PROGRAM up to its first FAULT. */
    private static final class Reader {
        private static final int WRONG_TOKEN = 1;
        private static final int WRONG_NUMBER = 2;
        private static final int TOO_MANY = 3;

        private int[] text = new int[0];
        private int length = 0;
        /** The TOKEN that is looked at: its first byte, and the one behind it. */
        private int start = 0;
        private int stop = 0;
        private Script script = new Script();
        private final int[] blocks = new int[DEPTH];
        private int depth = 0;
        private int fault = 0;
        private int place = NONE;

        void read(int[] bytes, int size, Script to) {
            text = bytes;
            length = size;
            script = to;
            script.items = 0;
            depth = 0;
            fault = 0;
            place = NONE;
            stop = 0;
            advanceToken();
            for (int i = 0; i < TAPE && start < length && fault == 0; i++) {
                if (isSign('}')) {
                    closeBlock();
                } else {
                    readItem();
                }
            }
            if (depth > 0) {
                note(WRONG_TOKEN);
            }
        }

        private void advanceToken() {
            start = stop;
            while (start < length && (text[start] == ' ' || text[start] == '\n')) {
                start++;
            }
            stop = Math.min(start + 1, length);
            if (isLetter(start)) {
                while (stop < length && isLetter(stop)) {
                    stop++;
                }
            } else if (isDigit(start)) {
                while (stop < length && isDigit(stop)) {
                    stop++;
                }
            }
        }

        private boolean isLetter(int at) {
            return at < length && text[at] >= 'a' && text[at] <= 'z';
        }

        private boolean isDigit(int at) {
            return at < length && text[at] >= '0' && text[at] <= '9';
        }

        private boolean isSign(char sign) {
            return start < length && text[start] == sign;
        }

        private boolean isWord(String word) {
            if (stop - start != word.length()) {
                return false;
            }
            for (int i = 0; i < word.length(); i++) {
                if (text[start + i] != word.charAt(i)) {
                    return false;
                }
            }
            return true;
        }

        /** The ROOT of a letter; NONE if the TOKEN is none. */
        private int rootHere() {
            if (stop - start != 1 || text[start] < 'a' || text[start] >= 'a' + ROOTS) {
                return NONE;
            }
            return text[start] - 'a';
        }

        /** The first FAULT alone is kept. */
        private void note(int what) {
            if (fault == 0) {
                fault = what;
                place = start;
            }
        }

        private void readSign(char sign) {
            if (isSign(sign)) {
                advanceToken();
            } else {
                note(WRONG_TOKEN);
            }
        }

        /** NONE for the word none, if it may stand there. */
        private int readRoot(boolean noneToo) {
            int root = rootHere();
            if (root == NONE && !(noneToo && isWord("none"))) {
                note(WRONG_TOKEN);
            } else {
                advanceToken();
            }
            return root;
        }

        private int readNumber(int least, int most) {
            if (!isDigit(start)) {
                note(WRONG_TOKEN);
                return NONE;
            }
            int number = 0;
            for (int i = start; i < stop && i < start + 3; i++) {
                number = 10 * number + text[i] - '0';
            }
            if (stop - start > 3 || number < least || number > most) {
                note(WRONG_NUMBER);
                return NONE;
            }
            advanceToken();
            return number;
        }

        private void closeBlock() {
            if (depth == 0) {
                note(WRONG_TOKEN);
                return;
            }
            depth--;
            script.ends[blocks[depth]] = script.items;
            advanceToken();
        }

        private void readItem() {
            int root = rootHere();
            boolean steps = isWord("step");
            boolean times = isWord("times");
            if (root == NONE && !steps && !times && !isWord("if")) {
                note(WRONG_TOKEN);
                return;
            }
            if (script.items == ITEMS || depth == DEPTH) {
                note(TOO_MANY);
                return;
            }
            advanceToken();
            if (root != NONE) {
                readNaming(root);
            } else if (steps) {
                int number = readNumber(1, 99);
                readSign(';');
                script.add(STEP, NONE, NONE, number);
            } else if (times) {
                openBlock(TIMES, NONE, readNumber(2, 9));
            } else {
                openBlock(IF, readRoot(false), 0);
            }
        }

        private void openBlock(int kind, int root, int number) {
            readSign('{');
            blocks[depth] = script.items;
            depth++;
            script.add(kind, root, NONE, number);
        }

        /** Behind the ROOT's letter: it comes to name something, or a FIELD of what it names does. */
        private void readNaming(int root) {
            if (isSign('.')) {
                advanceToken();
                int field = readNumber(0, MOST_FIELDS - 1);
                readSign('=');
                script.add(STORE, root, readRoot(true), field);
            } else {
                readSign('=');
                readValue(root);
            }
            readSign(';');
        }

        private void readValue(int root) {
            if (isWord("new")) {
                advanceToken();
                script.add(NEW, root, NONE, readNumber(0, MOST_FIELDS));
                return;
            }
            int other = readRoot(true);
            if (other != NONE && isSign('.')) {
                advanceToken();
                script.add(LOAD, root, other, readNumber(0, MOST_FIELDS - 1));
            } else {
                script.add(COPY, root, other, 0);
            }
        }
    }

    /** Goes through a PROGRAM on a HEAP. */
    private static final class Runner {
        private Heap heap;
        private Script script;
        private int goes = 0;
        private boolean stopped = false;

        Runner(Heap heap, Script script) {
            this.heap = heap;
            this.script = script;
        }

        void prepare(Heap onHeap, Script ofScript) {
            heap = onHeap;
            script = ofScript;
            goes = 0;
            stopped = false;
        }

        private void goThrough(int from, int to, int depth) {
            if (depth > DEPTH) {
                return;
            }
            for (int item = from; item < to && !stopped; item = Math.max(item + 1, script.ends[item])) {
                if (script.kinds[item] == TIMES) {
                    int goesAhead = NONE;
                    // A round without a GO has changed nothing: those behind it would be like it.
                    for (int i = 0; i < script.numbers[item] && !stopped && goes != goesAhead; i++) {
                        goesAhead = goes;
                        goThrough(item + 1, script.ends[item], depth + 1);
                    }
                } else if (script.kinds[item] == IF) {
                    if (heap.roots[script.roots[item]] != NONE) {
                        goThrough(item + 1, script.ends[item], depth + 1);
                    }
                } else {
                    go(item);
                }
            }
        }

        private void go(int item) {
            int root = script.roots[item];
            int other = script.others[item];
            int number = script.numbers[item];
            boolean refused = false;
            switch (script.kinds[item]) {
                case NEW:
                    stopped = heap.build(root, number) == REFUSED;
                    break;
                case COPY:
                    heap.roots[root] = heap.rootOrNone(other);
                    break;
                case LOAD:
                    refused = heap.fetch(root, other, number) == REFUSED;
                    break;
                case STORE:
                    refused = !heap.put(root, number, other);
                    break;
                default:
                    heap.advance(number);
                    break;
            }
            if (refused) {
                stopped = true;
                return;
            }
            goes++;
            if (goes >= GOES) {
                stopped = true;
            }
        }
    }
}
