/** Promises 1 to 26, sentence by sentence: what each says of its boundary cases. */
public final class EdgeTest extends Asked {
    private static final int LEAST = Integer.MIN_VALUE;
    private static final int MOST = Integer.MAX_VALUE;
    /** More than twice as many as are kept. */
    private static final int ACTS = 45;

    private static void untouched(TreadRing x, String ahead) {
        due("nothing is done", whole(x).equals(ahead), true);
    }

    // ---- 1, 2

    private static void fresh() {
        says(1, "A HEAP of 8 PAGES, nothing on it; BARRIER 0, ORDER 0, PACE 2, THRESHOLD 2.");
        TreadRing x = new TreadRing();
        int[] about = {8, 0, 0, 0, 0, 0, 0, 0, 0, 0, 2, 2, NONE, 0, 0, 0, 0, 0, 0};
        for (int what = 0; what < about.length; what++) {
            due("about(" + what + ")", x.about(what), about[what]);
        }
        for (int page = 0; page < 8; page++) {
            due("page(" + page + ", 0)", x.page(page, 0), 0);
        }
        due("back(0)", x.back(0), NONE);
        due("back(1)", x.back(1), NONE);
        x.make(0, 7);
        due("THRESHOLD 2: one is FREE", x.about(1), 1);
        x.make(1, 7);
        due("PACE 2", x.about(3), 2);
        TreadRing y = new TreadRing();
        y.make(1, 0);
        y.make(2, 0);
        y.make(0, 2);
        y.store(0, 0, 1);
        y.store(0, 1, 2);
        forget(y, 1, 2);
        due("THRESHOLD 2: three are FREE", y.start(), true);
        y.load(5, 0, 1);
        y.load(5, 0, 0);
        dueAll("BARRIER 0, ORDER 0", greys(y), 16, 2, 0);
        due("another object is apart from these", new TreadRing().about(7), 0);
    }

    /**
     * Something of everything: a CYCLE that ENDED (it left 32, which a ROOT named at its START), one that RUNS, settings,
     * names, ACTS to be done again, a FAULT.
     */
    private static TreadRing busy() {
        TreadRing x = chain();
        x.turn(0, 3);
        x.turn(1, 2);
        x.turn(2, 5);
        x.turn(3, 4);
        x.weak(0, 0);
        litter(x, 4, 1);
        x.work(500);
        x.start();
        x.work(1);
        x.copy(4, 0);
        x.undo();
        program(x, "a=none;b=a;");
        program(x, "x");
        type(x, "abc");
        return x;
    }

    private static void open() {
        says(2, "A HEAP of so many PAGES (1 .. 8), as at first else: true;");
        for (int pages = 1; pages <= 8; pages++) {
            TreadRing x = busy();
            due("open(" + pages + ")", x.open(pages), true);
            TreadRing fresh = new TreadRing();
            due("about(0)", x.about(0), pages);
            for (int what = 1; what <= 16; what++) {
                due("about(" + what + ")", x.about(what), fresh.about(what));
            }
            for (int page = 0; page < 8; page++) {
                due("page(" + page + ", 0)", x.page(page, 0), page < pages ? 0 : NONE);
            }
            dueAll("ROOTS", roots(x), roots(fresh));
            dueAll("WEAK ones", weaks(x), weaks(fresh));
            dueAll("RINGS", new int[] {x.ring(2, 0), x.ring(4, 0), x.ring(8, 0)}, NONE, NONE, NONE);
            dueAll("none is TOLD", told(x, 0), NONE, NONE, NONE);
            dueAll("none is GREY", greys(x));
        }
        TreadRing opened = busy();
        opened.open(8);
        TreadRing fresh = new TreadRing();
        due("a HEAP as at first", heap(opened).equals(heap(fresh)), true);
        for (TreadRing each : new TreadRing[] {opened, fresh}) {
            program(each, "a=new 7;b=new 7;a.0=b;c=new 2;c.1=a;times 9{d=new 1;e=new 4;}b=none;step 9;f=a.0;a=new 0;");
            each.run();
            each.start();
            each.work(3);
        }
        due("it goes on alike", heap(opened).equals(heap(fresh)), true);

        says(2, "false, doing nothing, if it can't be.");
        TreadRing x = busy();
        String ahead = whole(x);
        for (int pages : new int[] {0, 9, -1, 16, LEAST, MOST}) {
            due("open(" + pages + ")", x.open(pages), false);
        }
        untouched(x, ahead);

        says(2, "(No ACT; none is kept; the PROGRAM, the TAPE, BOXES stay.)");
        due("image(0)", x.image(0), 5);
        String boxed = heap(x);
        due("ACTS ahead of it", x.about(13) > 0 && x.about(14) > 0, true);
        x.open(3);
        due("none is kept", x.about(13) + x.about(14), 0);
        due("undo()", x.undo(), false);
        due("redo()", x.redo(), false);
        due("ITEMS", x.about(17), 2);
        due("run()", x.run(), 2);
        due("bytes on the TAPE", x.about(18), 3);
        due("fault(0)", x.fault(0), 1);
        due("back(0)", x.back(0), 5);
        due("all is as it was kept", heap(x).equals(boxed), true);
    }

    // ---- 3 .. 8

    private static void make() {
        says(3, "An OBJECT of so many FIELDS (0 .. 7) is MADE; a ROOT names it: its ADDRESS;");
        for (int root = 0; root <= 5; root++) {
            for (int fields = 0; fields <= 7; fields++) {
                TreadRing x = quiet(8);
                due("make(" + root + ", " + fields + ")", x.make(root, fields), 0);
                due("root(" + root + ")", x.root(root), 0);
                due("slot(0, 2)", x.slot(0, 2), fields);
                due("about(6)", x.about(6), 1);
            }
        }
        TreadRing y = quiet(8);
        y.make(0, 1);
        due("in place of what it named", y.make(0, 1) == 2 && y.root(0) == 2, true);
        due("that stays, not REACHED", y.about(7) == 2 && y.live(2) == 1, true);

        says(3, "NONE, doing nothing, if there is no such ROOT, number;");
        TreadRing x = busy();
        String ahead = whole(x);
        for (int root : new int[] {-1, 6, -2, LEAST, MOST}) {
            due("make(" + root + ", 0)", x.make(root, 0), NONE);
        }
        for (int fields : new int[] {-1, 8, LEAST, MOST}) {
            due("make(0, " + fields + ")", x.make(0, fields), NONE);
        }
        due("make(6, 8)", x.make(6, 8), NONE);
        untouched(x, ahead);

        says(3, "-2 if it can't be MADE (the ROOT stays).");
        TreadRing z = quiet(1);
        z.make(0, 7);
        z.make(1, 7);
        due("make(2, 7)", z.make(2, 7), -2);
        due("make(0, 0), no PAGE of 2 cells", z.make(0, 0), -2);
        dueAll("ROOTS", roots(z), 0, 8, NONE, NONE, NONE, NONE);
        due("MADE ever", z.about(6), 2);
        due("ACTS", z.about(13), 6);
        due("FORCED", z.about(4), 28);
        z.undo();
        due("it can be taken back", z.about(4), 14);
    }

    private static void load() {
        says(4, "A ROOT comes to name what a FIELD (0 ..) of the OBJECT that another ROOT (or itself) names does: that (NONE: none);");
        TreadRing x = quiet(8);
        x.make(0, 7);
        x.make(5, 0);
        x.store(0, 0, 0);
        x.store(0, 6, 5);
        due("load(3, 0, 0)", x.load(3, 0, 0), 0);
        due("load(4, 0, 6)", x.load(4, 0, 6), 16);
        due("load(4, 0, 5), none", x.load(4, 0, 5), NONE);
        due("root(4)", x.root(4), NONE);
        due("load(5, 3, 6)", x.load(5, 3, 6), 16);
        due("load(0, 0, 6), itself", x.load(0, 0, 6), 16);
        dueAll("ROOTS", roots(x), 16, NONE, NONE, 0, NONE, 16);

        says(4, "-2, doing nothing, if there are no such ROOTS, the other one names none, or there is no such FIELD.");
        String ahead = whole(x);
        for (int root : new int[] {-1, 6, LEAST, MOST}) {
            due("load(" + root + ", 3, 0)", x.load(root, 3, 0), -2);
            due("load(3, " + root + ", 0)", x.load(3, root, 0), -2);
        }
        due("load(3, 4, 0), it names none", x.load(3, 4, 0), -2);
        due("load(0, 5, 0), one without FIELDS", x.load(0, 5, 0), -2);
        for (int field : new int[] {-1, 7, 8, LEAST, MOST}) {
            due("load(3, 3, " + field + ")", x.load(3, 3, field), -2);
        }
        untouched(x, ahead);
    }

    private static void store() {
        says(5, "A FIELD of the OBJECT that a ROOT names comes to name what another ROOT does (NONE: none): true;");
        TreadRing x = quiet(8);
        x.make(0, 7);
        x.make(5, 0);
        due("store(0, 0, 0), itself", x.store(0, 0, 0), true);
        due("store(0, 6, 5)", x.store(0, 6, 5), true);
        due("field(0, 0)", x.field(0, 0), 0);
        due("field(0, 6)", x.field(0, 6), 16);
        due("the others name none", x.slot(0, 3), 2);
        due("store(0, 0, NONE)", x.store(0, 0, NONE), true);
        due("field(0, 0)", x.field(0, 0), NONE);
        due("store(0, 6, 4), of a ROOT that names none", x.store(0, 6, 4), true);
        due("field(0, 6)", x.field(0, 6), NONE);

        says(5, "false, doing nothing, if there are no such ROOTS, the first one names none, or there is no such FIELD.");
        String ahead = whole(x);
        for (int root : new int[] {-1, 6, LEAST, MOST}) {
            due("store(" + root + ", 0, 0)", x.store(root, 0, 0), false);
        }
        for (int other : new int[] {-2, 6, LEAST, MOST}) {
            due("store(0, 0, " + other + ")", x.store(0, 0, other), false);
        }
        due("store(4, 0, 0), it names none", x.store(4, 0, 0), false);
        due("store(4, 0, NONE), it names none", x.store(4, 0, NONE), false);
        due("store(5, 0, 0), one without FIELDS", x.store(5, 0, 0), false);
        for (int field : new int[] {-1, 7, 8, LEAST, MOST}) {
            due("store(0, " + field + ", 0)", x.store(0, field, 0), false);
        }
        untouched(x, ahead);
    }

    private static void copy() {
        says(6, "A ROOT names what another one does (NONE: none): true;");
        TreadRing x = quiet(8);
        x.make(0, 0);
        for (int root = 1; root <= 5; root++) {
            due("copy(" + root + ", 0)", x.copy(root, 0), true);
        }
        dueAll("ROOTS", roots(x), 0, 0, 0, 0, 0, 0);
        due("copy(0, NONE)", x.copy(0, NONE), true);
        due("copy(5, 0), which names none", x.copy(5, 0), true);
        due("copy(1, 1), itself", x.copy(1, 1), true);
        dueAll("ROOTS", roots(x), NONE, 0, 0, 0, 0, NONE);

        says(6, "false, doing nothing, if there are no such ROOTS.");
        String ahead = whole(x);
        for (int root : new int[] {-1, 6, LEAST, MOST}) {
            due("copy(" + root + ", 1)", x.copy(root, 1), false);
            due("copy(" + root + ", NONE)", x.copy(root, NONE), false);
        }
        for (int other : new int[] {-2, 6, LEAST, MOST}) {
            due("copy(1, " + other + ")", x.copy(1, other), false);
        }
        untouched(x, ahead);
    }

    private static void weak() {
        says(7, "A WEAK one (0 .. 3) names what a ROOT does (NONE: none): true;");
        TreadRing x = quiet(8);
        x.make(0, 0);
        x.make(5, 0);
        for (int weak = 0; weak <= 3; weak++) {
            due("weak(" + weak + ", ..)", x.weak(weak, weak % 2 == 0 ? 0 : 5), true);
        }
        dueAll("WEAK ones", weaks(x), 0, 2, 0, 2);
        due("weak(0, NONE)", x.weak(0, NONE), true);
        due("weak(1, 4), which names none", x.weak(1, 4), true);
        dueAll("WEAK ones", weaks(x), NONE, NONE, 0, 2);
        x.copy(0, 5);
        due("it stays when the ROOT names another", x.weakly(2), 0);

        says(7, "false, doing nothing, if there are none such.");
        String ahead = whole(x);
        for (int weak : new int[] {-1, 4, LEAST, MOST}) {
            due("weak(" + weak + ", 0)", x.weak(weak, 0), false);
            due("weak(" + weak + ", NONE)", x.weak(weak, NONE), false);
        }
        for (int root : new int[] {-2, 6, LEAST, MOST}) {
            due("weak(0, " + root + ")", x.weak(0, root), false);
        }
        untouched(x, ahead);
    }

    private static void strong() {
        says(8, "A ROOT comes to name what a WEAK one does: that (NONE: none);");
        TreadRing x = quiet(8);
        x.make(0, 0);
        x.make(1, 0);
        x.weak(0, 0);
        x.weak(3, 1);
        forget(x, 0);
        due("strong(5, 0)", x.strong(5, 0), 0);
        due("strong(0, 3)", x.strong(0, 3), 2);
        due("strong(1, 2), none", x.strong(1, 2), NONE);
        dueAll("ROOTS", roots(x), 2, NONE, NONE, NONE, NONE, 0);
        due("it is REACHED again", x.live(2), 0);

        says(8, "-2, doing nothing, if there are none such.");
        String ahead = whole(x);
        for (int root : new int[] {-1, 6, LEAST, MOST}) {
            due("strong(" + root + ", 0)", x.strong(root, 0), -2);
        }
        for (int weak : new int[] {-1, 4, LEAST, MOST}) {
            due("strong(0, " + weak + ")", x.strong(0, weak), -2);
        }
        untouched(x, ahead);
    }

    // ---- 9 .. 11

    private static void start() {
        says(9, "A CYCLE STARTS: true;");
        TreadRing x = chain();
        due("start()", x.start(), true);
        due("about(1)", x.about(1), 1);
        due("start() of nothing, that ENDS at once", new TreadRing().start(), true);

        says(9, "false, doing nothing, if one RUNS.");
        x.work(1);
        String ahead = whole(x);
        due("start()", x.start(), false);
        untouched(x, ahead);
        x.work(500);
        due("start() behind its END", x.start(), true);
    }

    private static void work() {
        says(10, "STEPS are done, so many at most (1 .. 500), till the CYCLE ENDS: how many were;");
        for (int steps = 1; steps <= 9; steps++) {
            TreadRing x = startedChain(0);
            due("work(" + steps + ") of seven", x.work(steps), Math.min(steps, 7));
            due("about(3)", x.about(3), Math.min(steps, 7));
            due("about(4)", x.about(4), 0);
            due("about(1)", x.about(1), steps < 7 ? 1 : 0);
        }
        due("work(500)", startedChain(0).work(500), 7);

        says(10, "NONE, doing nothing, if none RUNS, or for another number.");
        TreadRing y = chain();
        String ahead = whole(y);
        due("work(1), none RUNS", y.work(1), NONE);
        due("work(500), none RUNS", y.work(500), NONE);
        due("work(0), none RUNS", y.work(0), NONE);
        untouched(y, ahead);
        y.start();
        ahead = whole(y);
        for (int steps : new int[] {0, -1, 501, 1000, LEAST, MOST}) {
            due("work(" + steps + ")", y.work(steps), NONE);
        }
        untouched(y, ahead);
    }

    private static void turn() {
        says(11, "What 0: BARRIER (0 .. 3; not while a CYCLE RUNS), 1: ORDER (0 .. 3), 2: PACE (0 .. 16), 3: THRESHOLD (0 .. 16) is v from now on: what it was;");
        int[] atFirst = {0, 0, 2, 2};
        int[] most = {3, 3, 16, 16};
        TreadRing x = new TreadRing();
        for (int what = 0; what <= 3; what++) {
            int was = atFirst[what];
            for (int v = 0; v <= most[what]; v++) {
                due("turn(" + what + ", " + v + ")", x.turn(what, v), was);
                due("about(" + (8 + what) + ")", x.about(8 + what), v);
                was = v;
            }
            due("the same once more", x.turn(what, was), was);
        }
        TreadRing y = startedChain(1);
        due("turn(1, 3) while a CYCLE RUNS", y.turn(1, 3), 0);
        due("turn(2, 3) while a CYCLE RUNS", y.turn(2, 3), 0);
        due("turn(3, 3) while a CYCLE RUNS", y.turn(3, 3), 0);
        y.work(500);
        due("turn(0, 2) behind its END", y.turn(0, 2), 1);

        says(11, "NONE, doing nothing, if it can't be.");
        TreadRing z = startedChain(1);
        String ahead = whole(z);
        for (int v = -1; v <= 4; v++) {
            due("turn(0, " + v + ") while a CYCLE RUNS", z.turn(0, v), NONE);
        }
        untouched(z, ahead);
        z.work(500);
        ahead = whole(z);
        for (int what = 0; what <= 3; what++) {
            for (int v : new int[] {-1, most[what] + 1, LEAST, MOST}) {
                due("turn(" + what + ", " + v + ")", z.turn(what, v), NONE);
            }
        }
        for (int what : new int[] {-1, 4, LEAST, MOST}) {
            due("turn(" + what + ", 0)", z.turn(what, 0), NONE);
        }
        untouched(z, ahead);
    }

    // ---- 12 .. 16

    /** The place of the first byte that is no blank, as a FAULT tells it. */
    private static int placeOf(int... five) {
        TreadRing x = new TreadRing();
        x.feed(five[0], five[1], five[2], five[3], five[4]);
        x.program();
        return x.fault(1);
    }

    private static void feed() {
        says(12, "Twenty bytes come behind those on the TAPE, of each number the highest first: how many there are;");
        int blank = 0x20202020;
        for (int at = 0; at < 20; at++) {
            int[] five = {blank, blank, blank, blank, blank};
            five[at / 4] ^= (0x20 ^ 0xFF) << (24 - 8 * (at % 4));
            due("byte " + at, placeOf(five), at);
        }
        TreadRing x = new TreadRing();
        due("a = n", x.feed(0x613D6E65, 0x77373B62, 0x3D613B20, blank, blank), 20);
        due("a second time", x.feed(0x633D623B, blank, blank, blank, blank), 40);
        due("program()", x.program(), 3);
        due("run()", x.run(), 3);
        dueAll("ROOTS", roots(x), 0, 0, 0, NONE, NONE, NONE);
        TreadRing y = new TreadRing();
        y.feed(blank, blank, blank, blank, blank);
        y.cut(1);
        due("behind one byte", y.feed(0x78202020, blank, blank, blank, blank), 21);
        y.program();
        due("the place", y.fault(1), 1);

        says(12, "NONE, and nothing comes, if there would be more than 400.");
        TreadRing z = new TreadRing();
        for (int n = 20; n <= 400; n += 20) {
            due("feed(..)", z.feed(blank, blank, blank, blank, blank), n);
        }
        due("feed(..) behind 400", z.feed(-1, -1, -1, -1, -1), NONE);
        due("about(18)", z.about(18), 400);
        z.cut(381);
        due("feed(..) behind 381", z.feed(-1, -1, -1, -1, -1), NONE);
        due("about(18)", z.about(18), 381);
        z.cut(380);
        due("feed(..) behind 380", z.feed(blank, blank, blank, blank, blank), 400);
        due("blanks alone", z.program(), 0);
    }

    private static void cut() {
        says(13, "The TAPE has its first n bytes alone: n;");
        TreadRing x = new TreadRing();
        due("cut(0) of nothing", x.cut(0), 0);
        type(x, "a=b;c=d;e=f;");
        due("cut(12), all", x.cut(12), 12);
        due("cut(8)", x.cut(8), 8);
        due("about(18)", x.about(18), 8);
        due("program()", x.program(), 2);
        type(x, "a=b;");
        due("cut(0)", x.cut(0), 0);
        due("about(18)", x.about(18), 0);
        type(x, " ".repeat(400));
        due("cut(400)", x.cut(400), 400);

        says(13, "NONE, and nothing happens, if it has not so many, or n is below 0.");
        x.cut(0);
        due("cut(1) of nothing", x.cut(1), NONE);
        type(x, "a=b;");
        String ahead = whole(x);
        for (int n : new int[] {5, 400, 401, -1, LEAST, MOST}) {
            due("cut(" + n + ")", x.cut(n), NONE);
        }
        untouched(x, ahead);
        due("its bytes stay", x.program(), 1);
    }

    private static void programs() {
        says(14, "The TAPE (empty then) is the PROGRAM: how many ITEMS;");
        TreadRing x = quiet(8);
        due("program() of an empty TAPE", x.program(), 0);
        due("program()", program(x, "a=new 0;times 2{b=a;}"), 3);
        due("about(17)", x.about(17), 3);
        due("about(18)", x.about(18), 0);
        due("run()", x.run(), 3);
        due("another one in its place", program(x, "a=none;"), 1);
        due("run()", x.run(), 1);
        due("root(0)", x.root(0), NONE);
        due("40 ITEMS", program(x, "a=b;".repeat(40)), 40);
        due("an empty one in its place", x.program(), 0);
        due("about(17)", x.about(17), 0);

        says(14, "NONE, and the PROGRAM stays: a FAULT.");
        program(x, "f=new 0;e=f;");
        due("program() of a FAULT", program(x, "a=none;b=none;c=none"), NONE);
        due("the TAPE is empty, too", x.about(18), 0);
        due("about(17)", x.about(17), 2);
        due("run()", x.run(), 2);
        dueAll("ROOTS", roots(x), NONE, 0, NONE, NONE, 2, 2);
        due("another FAULT", program(x, "x"), NONE);
        due("about(17)", x.about(17), 2);
        due("run()", x.run(), 2);

        says(14, "(No ACT.)");
        TreadRing y = quiet(8);
        y.make(0, 0);
        y.undo();
        program(y, "a=b;");
        program(y, "a=");
        due("about(13)", y.about(13), 2);
        due("about(14)", y.about(14), 1);
        y.redo();
        y.undo();
        due("nor is it taken back", y.about(17), 1);
    }

    private static void faults() {
        says(15, "Of the latest program(), what 0: its FAULT (0: without; ahead of any, too), 1: its place (NONE).");
        TreadRing x = new TreadRing();
        dueAll("ahead of any", new int[] {x.fault(0), x.fault(1)}, 0, NONE);
        program(x, "a=b;a=new 8;");
        dueAll("of a number", new int[] {x.fault(0), x.fault(1)}, 2, 10);
        x.make(0, 0);
        type(x, "x");
        dueAll("of the latest still", new int[] {x.fault(0), x.fault(1)}, 2, 10);
        x.program();
        dueAll("at the place 0", new int[] {x.fault(0), x.fault(1)}, 1, 0);
        program(x, "a=b;".repeat(41));
        dueAll("of ITEMS", new int[] {x.fault(0), x.fault(1)}, 3, 160);
        program(x, "a=b;");
        dueAll("without", new int[] {x.fault(0), x.fault(1)}, 0, NONE);
        program(x, "a");
        x.program();
        dueAll("of an empty TAPE", new int[] {x.fault(0), x.fault(1)}, 0, NONE);

        says(15, "NONE for another what.");
        program(x, "a");
        for (int what : new int[] {-1, 2, LEAST, MOST}) {
            due("fault(" + what + ")", x.fault(what), NONE);
        }
    }

    private static void run() {
        says(16, "The PROGRAM is RUN (an ACT, if it has ITEMS): how many GOES were done;");
        TreadRing x = quiet(8);
        program(x, "a=new 1;b=a;a.0=b;");
        due("run()", x.run(), 3);
        due("one ACT", x.about(13), 3);
        due("field(0, 0)", x.field(0, 0), 0);
        x.undo();
        due("all of it is taken back", x.about(7), 0);
        x.redo();
        due("all of it is done again", x.field(0, 0), 0);
        program(x, "times 9{if f{}}");
        due("no GOES", x.run(), 0);
        due("an ACT all the same", x.about(13), 4);
        program(x, "f.0=a;");
        due("refused at once", x.run(), 0);
        due("an ACT all the same", x.about(13), 5);

        says(16, "NONE, doing nothing, without ITEMS.");
        TreadRing y = busy();
        program(y, "");
        String ahead = whole(y);
        due("run()", y.run(), NONE);
        untouched(y, ahead);
        due("of a new one", new TreadRing().run(), NONE);
    }

    // ---- 17 .. 19

    private static int[] allBy(TreadRing x, int barrier) {
        int[] all = new int[7];
        for (int what = 0; what <= 6; what++) {
            all[what] = x.runBy(barrier, what);
        }
        return all;
    }

    /** ROOT 5 has loaded 2 out of 0 (GREY, by a CYCLE that RUNS), which names none then. */
    private static TreadRing hidden(int barrier) {
        TreadRing x = quiet(8);
        x.make(0, 1);
        x.make(1, 0);
        x.store(0, 0, 1);
        x.copy(1, NONE);
        x.turn(0, barrier);
        x.start();
        x.load(5, 0, 0);
        x.store(0, 0, NONE);
        return x;
    }

    private static void runBy() {
        says(17, "The PROGRAM is RUN apart, from now on, with a BARRIER in place of that there is (a CYCLE that RUNS is gone to its END first, which does not count):");
        for (int barrier = 0; barrier <= 3; barrier++) {
            for (int there = 0; there <= 3; there++) {
                TreadRing x = hidden(there);
                program(x, "b=new 0;");
                int left = there == 3 ? 2 : 3;
                dueAll("by " + barrier + ", while a CYCLE RUNS by " + there, allBy(x, barrier), 1, 0, 0, 0, 0, left, left);
                due("it RUNS still", x.about(1), 1);
            }
        }
        TreadRing y = quiet(8);
        y.make(0, 7);
        y.start();
        program(y, "step 9;");
        due("no STEPS are left", y.runBy(0, 1), 0);

        says(17, "what 0: GOES, 1: STEPS, 2: how many are LOST, 3: FORCED STEPS, 4: CYCLES that ENDED, 5: OBJECTS at its end, 6: REACHED ones then;");
        TreadRing z = quiet(1);
        z.turn(3, 1);
        // The fourth OBJECT fills the PAGE: a CYCLE STARTS; 4 is hidden from it; the last one is garbage at the end.
        program(z, "a=new 2;b=new 2;a.0=b;b=none;c=new 2;c=new 2;d=a.0;a.0=none;step 99;c=none;");
        for (int barrier = 0; barrier <= 2; barrier++) {
            dueAll("by " + barrier, allBy(z, barrier), 10, 6, 0, 0, 1, 3, 2);
        }
        dueAll("by 3 one is LOST", allBy(z, 3), 10, 4, 1, 0, 1, 2, 1);
        z.turn(3, 0);
        program(z, "a=new 7;b=new 7;a=none;c=new 7;b=none;d=new 7;d=none;");
        dueAll("FORCED: 7 for c, 7 for d", allBy(z, 0), 7, 14, 0, 14, 2, 2, 1);
        due("ever", z.about(4), 0);

        says(17, "NONE if there are no such BARRIER, what, no ITEMS.");
        for (int wrong : new int[] {-1, 4, LEAST, MOST}) {
            due("runBy(" + wrong + ", 0)", z.runBy(wrong, 0), NONE);
        }
        for (int wrong : new int[] {-1, 7, LEAST, MOST}) {
            due("runBy(0, " + wrong + ")", z.runBy(0, wrong), NONE);
        }
        program(z, "");
        dueAll("no ITEMS", allBy(z, 0), NONE, NONE, NONE, NONE, NONE, NONE, NONE);

        says(17, "(Nothing is done; so below.)");
        TreadRing w = busy();
        String ahead = whole(w);
        for (int barrier = 0; barrier <= 3; barrier++) {
            allBy(w, barrier);
        }
        w.cheapest(0);
        w.cheapest(1);
        w.suits();
        untouched(w, ahead);
    }

    private static void cheapest() {
        says(18, "Of BARRIERS 0 .. 2 that by which the PROGRAM takes fewest STEPS so, of like ones the least: which (what 0), how many STEPS (1);");
        TreadRing x = quiet(1);
        x.turn(3, 1);
        program(x, "a=new 2;b=new 2;a.0=b;b=none;c=new 2;c=none;c=new 2;d=a.0;d=none;a.0=none;step 99;");
        dueAll("STEPS", new int[] {x.runBy(0, 1), x.runBy(1, 1), x.runBy(2, 1)}, 6, 4, 6);
        dueAll("1 alone", new int[] {x.cheapest(0), x.cheapest(1)}, 1, 4);
        program(x, "a=new 2;b=new 2;a.0=b;b=none;c=new 2;c=new 2;d=a.0;a.0=none;step 99;");
        dueAll("STEPS", new int[] {x.runBy(0, 1), x.runBy(1, 1), x.runBy(2, 1), x.runBy(3, 1)}, 6, 6, 6, 4);
        dueAll("of like ones the least, 3 not among them", new int[] {x.cheapest(0), x.cheapest(1)}, 0, 6);
        program(x, "a=b;");
        dueAll("no STEPS", new int[] {x.cheapest(0), x.cheapest(1)}, 0, 0);
        // By 0 and 1 the CYCLE ENDS by two STEPS, and another one STARTS; by 2 it has one more to go.
        TreadRing y = quiet(8);
        y.turn(3, 6);
        program(y, "d=new 1;c=new 1;c.0=d;d=new 1;c.0=none;step 2;a=new 1;step 2;");
        dueAll("STEPS", new int[] {y.runBy(0, 1), y.runBy(1, 1), y.runBy(2, 1)}, 4, 4, 3);
        dueAll("the last one", new int[] {y.cheapest(0), y.cheapest(1)}, 2, 3);
        // What is overwritten, but never loaded, is scanned by 2 alone.
        program(x, "a=new 2;b=new 2;a.0=b;b=none;c=new 2;c=new 2;a.0=none;step 99;");
        dueAll("STEPS", new int[] {x.runBy(0, 1), x.runBy(1, 1), x.runBy(2, 1)}, 4, 4, 6);
        dueAll("of 0 and 1 the least", new int[] {x.cheapest(0), x.cheapest(1)}, 0, 4);
        TreadRing w = hidden(3);
        program(w, "step 9;");
        dueAll("the CYCLE that RUNS does not count", new int[] {w.cheapest(0), w.cheapest(1)}, 0, 0);

        says(18, "NONE without ITEMS, for another what.");
        for (int what : new int[] {-1, 2, LEAST, MOST}) {
            due("cheapest(" + what + ")", x.cheapest(what), NONE);
        }
        program(x, "");
        dueAll("without ITEMS", new int[] {x.cheapest(0), x.cheapest(1)}, NONE, NONE);
    }

    private static void suits() {
        says(19, "The least PACE (0 .. 16) by which it takes no FORCED STEPS so (by the BARRIER there is);");
        TreadRing x = quiet(1);
        program(x, "a=new 7;b=new 7;");
        due("no STEPS at all", x.suits(), 0);
        // At the fourth one a CYCLE STARTS: nine STEPS are ahead of the fifth one's SLOT.
        x.turn(3, 1);
        program(x, "a=new 3;b=new 3;b=none;c=new 3;d=new 3;e=new 3;");
        due("nine STEPS", x.suits(), 9);
        x.turn(2, 16);
        due("whatever PACE there is", x.suits(), 9);
        due("that stays", x.about(10), 16);
        TreadRing y = quiet(2);
        y.turn(3, 1);
        program(y, "a=new 3;b=new 3;c=new 3;d=new 7;d=new 7;e=new 7;");
        due("sixteen STEPS", y.suits(), 16);
        TreadRing z = quiet(1);
        z.make(0, 7);
        litter(z, 7, 1);
        z.start();
        program(z, "b=new 7;");
        due("the CYCLE that RUNS is gone to its END first", z.suits(), 0);
        // By 1 two STEPS are enough ahead of the last one; by 0 what was loaded is scanned, too.
        for (int barrier = 0; barrier <= 1; barrier++) {
            TreadRing w = quiet(1);
            w.turn(0, barrier);
            w.turn(3, 1);
            program(w, "a=new 3;b=new 3;a.0=b;b=none;c=new 2;c=none;c=new 2;d=a.0;d=none;a.0=none;e=new 3;");
            due("by BARRIER " + barrier, w.suits(), barrier == 0 ? 8 : 5);
        }

        says(19, "NONE if by none, or without ITEMS.");
        TreadRing v = quiet(3);
        v.turn(3, 1);
        program(v, "a=new 3;b=new 3;c=new 3;f=new 0;d=new 7;d=new 7;e=new 7;");
        due("seventeen STEPS", v.suits(), NONE);
        v.open(1);
        program(v, "a=new 7;b=new 7;c=new 7;");
        due("one can't be MADE", v.suits(), NONE);
        program(v, "");
        due("without ITEMS", v.suits(), NONE);
    }

    // ---- 20 .. 26

    private static void undo() {
        says(20, "UNDO: true;");
        TreadRing x = new TreadRing();
        String[] seen = new String[ACTS + 1];
        seen[0] = heap(x);
        for (int i = 1; i <= ACTS; i++) {
            x.make(i % 6, i % 8);
            seen[i] = heap(x);
        }
        for (int i = ACTS - 1; i >= ACTS - 20; i--) {
            due("undo()", x.undo(), true);
            due("all is as it was behind ACT " + i, heap(x).equals(seen[i]), true);
            due("about(13)", x.about(13), i - ACTS + 20);
            due("about(14)", x.about(14), ACTS - i);
        }

        says(20, "false if there is none.");
        String ahead = whole(x);
        due("undo() of the twenty-first", x.undo(), false);
        untouched(x, ahead);
        due("undo() of a new one", new TreadRing().undo(), false);

        says(21, "REDO: true;");
        for (int i = ACTS - 19; i <= ACTS; i++) {
            due("redo()", x.redo(), true);
            due("all is as it was behind ACT " + i, heap(x).equals(seen[i]), true);
            due("about(13)", x.about(13), i - ACTS + 20);
            due("about(14)", x.about(14), ACTS - i);
        }

        says(21, "false if there is none.");
        ahead = whole(x);
        due("redo() of the twenty-first", x.redo(), false);
        untouched(x, ahead);
        due("redo() of a new one", new TreadRing().redo(), false);
        x.undo();
        x.undo();
        x.turn(1, 0);
        due("redo() behind another ACT", x.redo(), false);
        due("undo() of that", x.undo(), true);
        due("redo() of that", x.redo(), true);
    }

    private static void names() {
        says(22, "What a ROOT names (NONE);");
        TreadRing x = quiet(8);
        x.make(0, 0);
        x.make(5, 0);
        x.weak(0, 0);
        x.weak(3, 5);
        dueAll("ROOTS", roots(x), 0, NONE, NONE, NONE, NONE, 2);

        says(22, "-2 if there is none such.");
        for (int root : new int[] {-1, 6, LEAST, MOST}) {
            due("root(" + root + ")", x.root(root), -2);
        }

        says(23, "What a WEAK one names (NONE);");
        dueAll("WEAK ones", weaks(x), 0, NONE, NONE, 2);

        says(23, "-2 if there is none such.");
        for (int weak : new int[] {-1, 4, LEAST, MOST}) {
            due("weakly(" + weak + ")", x.weakly(weak), -2);
        }
    }

    private static void toldOnes() {
        says(24, "Of a CYCLE that is TOLD, the i-th latest (0 the latest), what 0: STEPS, 1: OBJECTS that came FREE, 2: OBJECTS left;");
        TreadRing x = chain();
        litter(x, 0, 2);
        x.start();
        x.work(500);
        dueAll("told(0, ..)", told(x, 0), 7, 2, 4);
        x.copy(0, NONE);
        x.start();
        dueAll("told(0, ..)", told(x, 0), 0, 4, 0);
        dueAll("told(1, ..)", told(x, 1), 7, 2, 4);
        for (int i = 0; i < 14; i++) {
            x.start();
        }
        dueAll("told(15, ..), the first of sixteen", told(x, 15), 7, 2, 4);
        x.start();
        dueAll("told(15, ..), the second of seventeen", told(x, 15), 0, 4, 0);
        x.undo();
        dueAll("taken back", told(x, 15), 7, 2, 4);

        says(24, "NONE if there is none such, or for another what.");
        for (int i : new int[] {-1, 16, LEAST, MOST}) {
            dueAll("told(" + i + ", ..)", told(x, i), NONE, NONE, NONE);
        }
        for (int what : new int[] {-1, 3, LEAST, MOST}) {
            due("told(0, " + what + ")", x.told(0, what), NONE);
        }
        TreadRing y = chain();
        dueAll("none ENDED", told(y, 0), NONE, NONE, NONE);
        y.start();
        dueAll("while the first RUNS", told(y, 0), NONE, NONE, NONE);
        y.work(500);
        dueAll("one alone ENDED", told(y, 1), NONE, NONE, NONE);
    }

    private static void boxes() {
        says(25, "All that there is (but the PROGRAM, the TAPE) is kept in a BOX (0, 1): how many OBJECTS;");
        TreadRing x = busy();
        String ahead = whole(x);
        String kept = heap(x);
        due("image(0)", x.image(0), 5);
        untouched(x, ahead);
        x.open(2);
        x.make(3, 7);
        String other = heap(x);
        due("image(1)", x.image(1), 1);
        x.start();
        x.open(1);
        due("back(0)", x.back(0), 5);
        due("all is as it was kept", heap(x).equals(kept), true);
        due("back(1)", x.back(1), 1);
        due("all is as it was kept", heap(x).equals(other), true);
        x.open(3);
        due("image(1) of nothing, in place of that", x.image(1), 0);
        due("back(0)", x.back(0), 5);
        due("back(1)", x.back(1), 0);
        due("about(0)", x.about(0), 3);

        says(25, "NONE if there is none such.");
        for (int box : new int[] {-1, 2, LEAST, MOST}) {
            due("image(" + box + ")", x.image(box), NONE);
        }

        says(26, "All is as it was kept (nothing can be taken back, or done again then): how many OBJECTS;");
        TreadRing y = busy();
        kept = heap(y);
        y.image(1);
        y.work(500);
        y.copy(0, NONE);
        y.undo();
        program(y, "a=b;c=d;e=f;");
        type(y, "ab");
        due("ACTS ahead of it", y.about(13) > 0 && y.about(14) > 0, true);
        due("back(1)", y.back(1), 5);
        due("all is as it was kept", heap(y).equals(kept), true);
        due("undo()", y.undo(), false);
        due("redo()", y.redo(), false);
        due("the PROGRAM is the later one", y.about(17), 3);
        due("the TAPE is the later one", y.about(18), 2);
        y.work(500);
        y.make(0, 0);
        due("back(1) again", y.back(1), 5);
        due("the BOX keeps it", heap(y).equals(kept), true);

        says(26, "NONE, doing nothing, if nothing was, or there is no such BOX.");
        y.work(1);
        y.work(1);
        y.undo();
        ahead = whole(y);
        for (int box : new int[] {0, -1, 2, LEAST, MOST}) {
            due("back(" + box + ")", y.back(box), NONE);
        }
        untouched(y, ahead);
    }

    public static void main(String[] args) {
        fresh();
        open();
        make();
        load();
        store();
        copy();
        weak();
        strong();
        start();
        work();
        turn();
        feed();
        cut();
        programs();
        faults();
        run();
        runBy();
        cheapest();
        suits();
        undo();
        names();
        toldOnes();
        boxes();
        tell();
    }
}
