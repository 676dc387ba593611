/** The document's Terms, parts 1 to 3, sentence by sentence: what each says of its boundary cases. */
public final class TermsTest extends Asked {

    // ---- the HEAP

    private static void pages() {
        says(0, "The HEAP has 1 to 8 PAGES (8 at first) of 16 cells;");
        due("PAGES at first", new TreadRing().about(0), 8);
        for (int pages = 1; pages <= 8; pages++) {
            TreadRing x = quiet(pages);
            due("about(0)", x.about(0), pages);
            due("the last PAGE", x.page(pages - 1, 0), 0);
            due("no PAGE behind it", x.page(pages, 0), NONE);
            due("two OBJECTS of 8 cells a PAGE", x.room(7, 0), 2 * pages);
            for (int i = 0; i < 8 * pages; i++) {
                due("each of 2 cells", x.make(0, 0), 2 * i);
            }
            due("none is FREE", x.many(2, FREE), 0);
            due("one more by force alone", x.room(0, 0), 0);
            due("it is where the first one was", x.make(0, 0), 0);
        }

        says(0, "an ADDRESS is 16 times its PAGE and the cell there.");
        TreadRing x = quiet(8);
        due("the first cell of PAGE 0", x.make(0, 7), 0);
        due("the first cell of PAGE 1", x.make(0, 0), 16);
        due("the first cell of PAGE 2", x.make(0, 3), 32);
        due("cell 8 of PAGE 0", x.make(0, 4), 8);
        due("cell 2 of PAGE 1", x.make(0, 1), 18);
        due("cell 4 of PAGE 2", x.make(0, 2), 36);
        due("PAGE 3", x.make(0, 7), 48);
        TreadRing y = quiet(8);
        for (int i = 0; i < 16; i++) {
            due("up to cell 8 of PAGE 7", y.make(0, 7), 8 * i);
        }
    }

    private static void sizes() {
        says(0, "A PAGE is unused, or of a SIZE: 2, 4 or 8 cells: it has 8, 4 or 2 SLOTS of it, one behind another.");
        for (int size = 2; size <= 8; size *= 2) {
            TreadRing x = quiet(8);
            x.make(0, size - 1);
            due("SIZE", x.page(0, 0), size);
            due("FREE SLOTS", x.page(0, 1), 16 / size - 1);
            due("the other", x.page(0, 2), 1);
            for (int cell = 0; cell < 16; cell++) {
                due("slot(" + cell + ", 1)", x.slot(cell, 1), cell % size == 0 ? size : NONE);
            }
            due("an unused PAGE has no SIZE", x.page(1, 0), 0);
            due("no SLOT begins on it", x.slot(16, 0), NONE);
            due("SLOTS of other SIZES", x.many(size == 2 ? 4 : 2, FREE), 0);
        }

        says(0, "An OBJECT has 0 to 7 FIELDS, each of which names an OBJECT, or none;");
        for (int fields = 0; fields <= 7; fields++) {
            TreadRing x = quiet(8);
            x.make(0, fields);
            due("FIELDS", x.slot(0, 2), fields);
            for (int f = 0; f < fields; f++) {
                due("a FIELD names none", x.field(0, f), NONE);
                due("store(0, " + f + ", 0)", x.store(0, f, 0), true);
                due("or an OBJECT", x.field(0, f), 0);
                due("so many do", x.slot(0, 3), f + 1);
            }
            due("no FIELD behind the last", x.field(0, fields), -2);
            due("store() there", x.store(0, fields, 0), false);
            due("load() there", x.load(1, 0, fields), -2);
        }
        due("not -1 FIELDS", new TreadRing().make(0, -1), NONE);
        due("not 8 FIELDS", new TreadRing().make(0, 8), NONE);

        says(0, "it takes a SLOT of the least SIZE above the number of its FIELDS, and is told by its ADDRESS, that SLOT's first cell.");
        int[] least = {2, 2, 4, 4, 8, 8, 8, 8};
        for (int fields = 0; fields <= 7; fields++) {
            TreadRing x = quiet(8);
            x.make(0, fields);
            int second = x.make(1, fields);
            due("the SIZE for " + fields, x.slot(0, 1), least[fields]);
            due("the second one's ADDRESS", second, least[fields]);
            due("its ROOT", x.root(1), least[fields]);
        }
    }

    private static void names() {
        says(0, "ROOTS 0 .. 5 name an OBJECT each, or none (at first);");
        TreadRing x = quiet(8);
        dueAll("ROOTS at first", roots(x), NONE, NONE, NONE, NONE, NONE, NONE);
        due("root(-1)", x.root(-1), -2);
        due("root(6)", x.root(6), -2);
        for (int root = 0; root < 6; root++) {
            x.make(root, 0);
        }
        dueAll("one each", roots(x), 0, 2, 4, 6, 8, 10);

        says(0, "so do WEAK names 0 .. 3, which GREY nothing, and by which nothing is REACHED.");
        TreadRing y = quiet(8);
        dueAll("WEAK ones at first", weaks(y), NONE, NONE, NONE, NONE);
        due("weakly(-1)", y.weakly(-1), -2);
        due("weakly(4)", y.weakly(4), -2);
        y.make(0, 1);
        y.make(1, 1);
        y.weak(0, 0);
        y.weak(3, 1);
        y.store(0, 0, 1);
        dueAll("WEAK ones", weaks(y), 0, NONE, NONE, 2);
        y.copy(1, NONE);
        due("by the FIELD it is REACHED", y.slot(2, 5), 1);
        y.store(0, 0, NONE);
        due("by the WEAK one it is not", y.slot(2, 5), 0);
        due("live(0)", y.live(0), 1);
        y.start();
        due("nor is it GREY", y.slot(2, 0), ECRU);
        dueAll("nor will it be", greys(y), 0);
    }

    // ---- RINGS and CYCLES

    private static void rings() {
        says(0, "COLOURS of SLOTS: FREE 0 (no OBJECT), ECRU 1, GREY 2, BLACK 3.");
        TreadRing x = startedChain(0);
        x.work(2);
        due("12", x.slot(12, 0), 0);
        due("8", x.slot(8, 0), 1);
        due("4", x.slot(4, 0), 2);
        due("0", x.slot(0, 0), 3);
        due("a FREE one is no OBJECT", x.field(12, 0), -2);

        says(0, "Of each SIZE all its SLOTS stand in a RING, told from its first FREE one on: first those that are FREE, then ECRU, GREY, BLACK ones.");
        dueAll("one of each COLOUR", ring(x, 4), 12, 8, 4, 0);
        dueAll("those of 2 cells", ring(x, 2), 18, 20, 22, 24, 26, 28, 30, 16);
        dueAll("none of 8 cells", ring(x, 8));
        x.make(1, 3);
        dueAll("none FREE: from the ECRU one on", ring(x, 4), 8, 4, 0, 12);
        TreadRing y = quiet(1);
        litter(y, 7, 2);
        dueAll("BLACK ones alone", ring(y, 8), 0, 8);
        y.start();
        dueAll("FREE ones alone", ring(y, 8), 0, 8);
        due("both", y.many(8, FREE), 2);
    }

    private static void start() {
        says(0, "A CYCLE RUNS, or not (at first).");
        TreadRing x = quiet(8);
        due("about(1) at first", x.about(1), 0);
        x.make(0, 0);
        due("about(1) then", x.about(1), 0);
        x.start();
        due("about(1) behind start()", x.about(1), 1);

        says(0, "START: it RUNS; all BLACK ones are ECRU (they stand as they did);");
        TreadRing y = quiet(8);
        y.make(0, 0);
        y.make(1, 0);
        y.make(2, 0);
        y.make(3, 2);
        y.start();
        y.work(500);
        dueAll("a CYCLE turned BLACK ones round", ring(y, 2), 6, 8, 10, 12, 14, 4, 2, 0);
        forget(y, 0, 1, 2);
        y.start();
        due("it RUNS", y.about(1), 1);
        due("ECRU ones", y.many(2, ECRU), 3);
        due("BLACK ones", y.many(2, BLACK), 0);
        dueAll("they stand as they did", ring(y, 2), 6, 8, 10, 12, 14, 4, 2, 0);

        says(0, "then what ROOTS name is GREYED, by their numbers.");
        TreadRing z = quiet(8);
        z.make(5, 0);
        z.make(0, 0);
        z.make(2, 0);
        z.make(4, 0);
        z.copy(1, 5);
        z.copy(4, NONE);
        z.start();
        dueAll("0, 1 (as 5 does), 2", greys(z), 2, 0, 4);
        due("what ROOTS name no more", z.slot(6, 0), ECRU);

        says(0, "GREYED: one that is ECRU is GREY, and stands ahead of all GREY ones of its RING (one that is not ECRU: nothing).");
        dueAll("the last one ahead", ring(z, 2), 8, 10, 12, 14, 6, 4, 0, 2);
        notGreyedAgain();

        says(0, "If none is GREY then, the CYCLE ENDS at once.");
        TreadRing w = new TreadRing();
        due("start() of an empty HEAP", w.start(), true);
        due("it RUNS no more", w.about(1), 0);
        due("one ENDED", w.about(2), 1);
        dueAll("told", told(w, 0), 0, 0, 0);
        TreadRing v = quiet(8);
        litter(v, 1, 3);
        v.make(0, 7);
        v.weak(0, 0);
        v.copy(0, NONE);
        due("start() where no ROOT names one", v.start(), true);
        due("it RUNS no more", v.about(1), 0);
        dueAll("told", told(v, 0), 0, 4, 0);
        due("work(1)", v.work(1), NONE);
    }

    /** ROOTS 0, 1 name 0 (which names itself) and 2 (which names 0). */
    private static void notGreyedAgain() {
        TreadRing x = quiet(8);
        x.make(0, 1);
        x.make(1, 1);
        x.store(0, 0, 0);
        x.store(1, 0, 0);
        x.start();
        dueAll("both GREY", greys(x), 0, 2);
        x.load(2, 1, 0);
        dueAll("a GREY one stays where it is", greys(x), 0, 2);
        dueAll("in its RING, too", ring(x, 2), 4, 6, 8, 10, 12, 14, 2, 0);
        x.work(1);
        due("0 is BLACK", x.slot(0, 0), BLACK);
        x.load(3, 1, 0);
        due("a BLACK one stays so", x.slot(0, 0), BLACK);
        dueAll("none but 2 is GREY", greys(x), 2);
    }

    // ---- STEPS

    /** ROOTS 0 .. 3 name 32 (of 4 cells, two FIELDS), 0 (8, four), 18 (2, none), 16 (2, none). */
    private static TreadRing ordered(int order) {
        TreadRing x = quiet(8);
        x.make(1, 4);
        x.make(3, 0);
        x.make(2, 0);
        x.make(0, 2);
        x.turn(1, order);
        x.start();
        return x;
    }

    private static void orders() {
        says(0, "A STEP of scanning, while it RUNS: if no GREY one is being scanned, one is taken: by ORDER 0 that which was GREYED first, 1 that which was GREYED last, 2 of the least SIZE, then GREYED first, 3 of the least ADDRESS;");
        int[][] taken = {{32, 0, 18, 16}, {16, 18, 0, 32}, {18, 16, 32, 0}, {0, 16, 18, 32}};
        for (int order = 0; order <= 3; order++) {
            TreadRing x = ordered(order);
            dueAll("by ORDER " + order, greys(x), taken[order]);
            due("none is being scanned yet", x.about(12), NONE);
            for (int i = 0; i < 4; i++) {
                int next = taken[order][i];
                int fields = x.slot(next, 2);
                x.work(1);
                due("the one that is taken by ORDER " + order, x.about(12), fields > 1 ? next : NONE);
                if (fields > 1) {
                    x.work(fields - 1);
                }
                due("it is BLACK", x.slot(next, 0), BLACK);
            }
            due("the CYCLE ENDED", x.about(1), 0);
        }
        TreadRing y = quiet(8);
        y.make(0, 3);
        y.make(0, 0);
        litter(y, 0, 2);
        due("no STEP while none RUNS", y.about(3), 0);

        says(0, "it is scanned till it is BLACK.");
        scannedToItsEnd();
    }

    /** 16 (of 8 cells) names 0, which is of less ADDRESS and SIZE, and is GREYED behind it. */
    private static void scannedToItsEnd() {
        for (int order = 1; order <= 3; order++) {
            TreadRing x = quiet(8);
            x.make(1, 0);
            x.make(0, 7);
            x.store(0, 0, 1);
            x.copy(1, NONE);
            x.turn(1, order);
            x.start();
            x.work(1);
            due("by ORDER " + order + " the other one would be next", x.slot(0, 0), GREY);
            dueAll("grey(..)", greys(x), 16, 0);
            for (int looked = 2; looked <= 6; looked++) {
                x.work(1);
                due("about(12)", x.about(12), 16);
                due("slot(16, 4)", x.slot(16, 4), looked);
            }
            x.turn(1, 3);
            x.work(1);
            due("it is BLACK", x.slot(16, 0), BLACK);
            due("the other one is not", x.slot(0, 0), GREY);
        }
    }

    private static void steps() {
        says(0, "Of that one the next FIELD (from 0 on) is looked at: what it names is GREYED.");
        TreadRing x = quiet(8);
        x.make(0, 5);
        x.make(1, 0);
        x.make(2, 0);
        x.store(0, 0, 1);
        x.store(0, 1, 0);
        x.store(0, 3, 2);
        x.store(0, 4, 1);
        forget(x, 1, 2);
        x.start();
        x.work(1);
        dueAll("FIELD 0 names 16", greys(x), 0, 16);
        x.work(1);
        dueAll("FIELD 1 names itself", greys(x), 0, 16);
        x.work(1);
        dueAll("FIELD 2 names none", greys(x), 0, 16);
        x.work(1);
        dueAll("FIELD 3 names 18", greys(x), 0, 16, 18);
        x.work(1);
        dueAll("FIELD 4 names a GREY one; 0 is BLACK", greys(x), 16, 18);

        says(0, "Was it the last FIELD (or has it none), it is BLACK, and stands ahead of all BLACK ones of its RING.");
        for (int fields = 0; fields <= 7; fields++) {
            TreadRing y = quiet(8);
            y.make(0, fields);
            y.make(1, fields);
            y.start();
            y.make(2, fields);
            if (fields > 1) {
                y.work(fields - 1);
                due("one FIELD is left of " + fields, y.slot(0, 0), GREY);
            }
            y.work(1);
            due("the last one of " + fields, y.slot(0, 0), BLACK);
            due("none is being scanned", y.about(12), NONE);
            int size = y.slot(0, 1);
            int last = ring(y, size).length - 1;
            due("ahead of the BLACK one", y.ring(size, last - 1), 0);
            due("which stays last", y.ring(size, last), 2 * size);
            y.work(500);
            due("the other one stands ahead of both", y.ring(size, last - 2), size);
        }

        TreadRing v = reused();
        v.start();
        v.work(1);
        due("no FIELD of 2, though its SLOT had one", v.slot(0, 0), ECRU);
        v.work(2);
        due("two FIELDS of 20, though its SLOT had three", v.slot(0, 0), ECRU);
        due("both are BLACK", v.slot(2, 0) == BLACK && v.slot(20, 0) == BLACK, true);

        says(0, "If none is GREY then: by BARRIER 1 what ROOTS name is GREYED once more; if none is GREY still, the CYCLE ENDS.");
        int[] left = {2, 2, 2, 1};
        int[] steps = {2, 2, 2, 1};
        for (int barrier = 0; barrier <= 3; barrier++) {
            TreadRing y = hidden(barrier);
            due("STEPS by BARRIER " + barrier, y.work(500), steps[barrier]);
            due("OBJECTS left by BARRIER " + barrier, y.about(7), left[barrier]);
            due("it RUNS no more", y.about(1), 0);
            due("one CYCLE", y.about(2), 1);
        }
        for (int root = 1; root <= 5; root++) {
            TreadRing y = hiddenBy(1, 0, root);
            y.work(1);
            dueAll("ROOT " + root + " GREYS it behind the last STEP", greys(y), 2);
        }
        TreadRing u = hiddenBy(1, 5, 0);
        u.work(1);
        dueAll("ROOT 0 GREYS it behind the last STEP", greys(u), 2);
        TreadRing z = hidden(1);
        z.work(1);
        due("it RUNS still", z.about(1), 1);
        TreadRing w = hidden(3);
        w.work(1);
        due("by none it does not", w.about(1), 0);
    }

    /** ROOT 5 has loaded 2 out of 0, which is GREY, and 0 names none then. */
    private static TreadRing hidden(int barrier) {
        return hiddenBy(barrier, 0, 5);
    }

    private static TreadRing hiddenBy(int barrier, int from, int to) {
        TreadRing x = quiet(8);
        x.make(from, 1);
        x.make(to, 0);
        x.store(from, 0, to);
        x.copy(to, NONE);
        x.turn(0, barrier);
        x.start();
        x.load(to, from, 0);
        x.store(from, 0, NONE);
        return x;
    }

    /**
     * 2 (no FIELD) and 20 (two) are where OBJECTS of one and three FIELDS were, the last of which named 0; nobody names
     * that now. ROOTS 0, 1, 2 name 2, 20, 24.
     */
    private static TreadRing reused() {
        TreadRing x = quiet(2);
        x.make(4, 0);
        x.make(0, 1);
        x.make(5, 3);
        x.make(1, 3);
        x.store(0, 0, 4);
        x.store(1, 2, 4);
        forget(x, 0, 1);
        x.start();
        x.work(500);
        litter(x, 0, 6);
        x.make(2, 3);
        litter(x, 3, 1);
        due("where one FIELD was", x.make(0, 0), 2);
        due("where three FIELDS were", x.make(1, 2), 20);
        forget(x, 4);
        return x;
    }

    // ---- the END

    private static void end() {
        says(0, "It ENDS: it RUNS no more; each FIELD of an OBJECT that is not ECRU, and each ROOT, that names one that is ECRU, names none then (each of these is LOST, one more);");
        TreadRing x = startedChain(3);
        x.load(1, 0, 0);
        x.load(2, 1, 0);
        x.copy(5, 1);
        x.make(3, 3);
        x.store(3, 0, 1);
        x.store(3, 2, 1);
        x.store(3, 1, 0);
        x.store(0, 0, NONE);
        dueAll("ROOTS", roots(x), 0, 4, 8, 12, NONE, 4);
        due("4 names 8, both ECRU", x.field(4, 0), 8);
        due("work(500)", x.work(500), 3);
        due("it RUNS no more", x.about(1), 0);
        dueAll("ROOTS 1, 2, 5 name none", roots(x), 0, NONE, NONE, 12, NONE, NONE);
        due("nor does field(12, 0)", x.field(12, 0), NONE);
        due("field(12, 1) does", x.field(12, 1), 0);
        due("nor does field(12, 2)", x.field(12, 2), NONE);
        due("field(0, 1) does", x.field(0, 1), 16);
        due("LOST: three ROOTS, two FIELDS, not the ECRU one's", x.about(5), 5);

        for (int root = 0; root <= 5; root++) {
            int other = root == 0 ? 1 : 0;
            TreadRing w = hiddenBy(3, other, root);
            w.work(500);
            due("ROOT " + root + " names none", w.root(root), NONE);
            due("LOST", w.about(5), 1);
            due("ROOT " + other + " names 0 still", w.root(other), 0);
        }

        says(0, "all ECRU ones are FREE, standing where they did.");
        dueAll("4 and 8 are FREE", ring(x, 4), 4, 8, 0, 12);
        due("many(4, 0)", x.many(4, FREE), 2);
        TreadRing y = quiet(8);
        y.make(0, 0);
        litter(y, 0, 3);
        y.start();
        y.work(500);
        dueAll("behind those that were FREE", ring(y, 2), 8, 10, 12, 14, 2, 4, 6, 0);

        says(0, "A WEAK one that names one that is ECRU names none then, too (it is not LOST, but CLEARED).");
        TreadRing z = chain();
        z.load(1, 0, 0);
        z.weak(0, 1);
        z.weak(1, 1);
        z.weak(3, 0);
        z.copy(1, NONE);
        z.store(0, 0, NONE);
        z.start();
        dueAll("while it RUNS", weaks(z), 4, 4, NONE, 0);
        z.work(500);
        dueAll("then", weaks(z), NONE, NONE, NONE, 0);
        due("CLEARED", z.about(15), 2);
        due("LOST", z.about(5), 0);
        z.copy(0, NONE);
        z.start();
        due("CLEARED ever", z.about(15), 3);
    }

    private static void toldCycles() {
        says(0, "The latest 16 CYCLES that ENDED are TOLD: how many STEPS were done from START to END, how many OBJECTS came FREE, how many are left.");
        TreadRing x = quiet(8);
        for (int n = 1; n <= 17; n++) {
            litter(x, 0, n);
            due("about(16) ahead of it", x.about(16), Math.min(n - 1, 16));
            x.start();
        }
        due("about(16)", x.about(16), 16);
        due("about(2)", x.about(2), 17);
        for (int i = 0; i < 16; i++) {
            dueAll("told(" + i + ", ..)", told(x, i), 0, 17 - i, 0);
        }
        dueAll("the oldest is gone", told(x, 16), NONE, NONE, NONE);
        TreadRing w = quiet(8);
        for (int n = 0; n < 40; n++) {
            litter(w, 0, n % 7 + 1);
            w.start();
        }
        for (int i = 0; i < 16; i++) {
            dueAll("of forty told(" + i + ", ..)", told(w, i), 0, (39 - i) % 7 + 1, 0);
        }
        dueAll("of forty the seventeenth", told(w, 16), NONE, NONE, NONE);
        TreadRing z = chain();
        for (int cycle = 0; cycle < 3; cycle++) {
            z.start();
            z.work(2);
            z.copy(5, NONE);
            z.work(500);
            dueAll("STEPS of one CYCLE, not of those ahead of it", told(z, 0), 7, 0, 4);
        }
        TreadRing y = quiet(1);
        y.make(0, 7);
        y.make(1, 7);
        y.start();
        y.work(3);
        y.turn(2, 2);
        y.copy(1, NONE);
        due("by work() 3, by PACE 2, by force 9", y.make(2, 7), 8);
        dueAll("the one that was STARTED by force", told(y, 0), 7, 1, 1);
        dueAll("the one ahead of it", told(y, 1), 14, 0, 2);
    }

    // ---- BARRIERS

    private static void barriers() {
        says(0, "BARRIERS (while a CYCLE RUNS; else nothing):");
        for (int barrier = 0; barrier <= 3; barrier++) {
            TreadRing x = chain();
            x.turn(0, barrier);
            x.weak(0, 0);
            x.load(1, 0, 0);
            x.store(0, 0, 0);
            x.store(0, 0, NONE);
            x.strong(2, 0);
            due("all OBJECTS are BLACK", x.many(4, BLACK) + x.many(2, BLACK), 4);
            dueAll("none is GREY", greys(x));
            dueAll("they stand as they did", ring(x, 4), 12, 0, 4, 8);
        }

        says(0, "0: what a ROOT comes to name by load() is GREYED.");
        TreadRing x = startedChain(0);
        x.load(1, 0, 0);
        due("load()", x.slot(4, 0), GREY);
        x.store(0, 1, NONE);
        due("what is overwritten is not", x.slot(16, 0), ECRU);
        x.load(2, 0, 1);
        dueAll("nor is none", greys(x), 0, 4);

        says(0, "1: what a FIELD comes to name by store() is GREYED.");
        TreadRing y = startedChain(1);
        y.load(1, 0, 0);
        due("load()", y.slot(4, 0), ECRU);
        y.load(2, 0, 1);
        y.store(0, 0, 2);
        due("store()", y.slot(16, 0), GREY);
        due("what is overwritten is not", y.slot(4, 0), ECRU);
        y.store(0, 0, NONE);
        dueAll("nor is none", greys(y), 0, 16);
        TreadRing r = startedChain(1);
        r.store(0, 0, 0);
        dueAll("FIELD 0 alone comes to name one, a GREY one", greys(r), 0);

        says(0, "2: what it named ahead of a store() is GREYED ahead of it.");
        TreadRing z = startedChain(2);
        z.load(1, 0, 0);
        due("load()", z.slot(4, 0), ECRU);
        z.load(2, 1, 0);
        z.store(0, 1, 2);
        due("what is overwritten", z.slot(16, 0), GREY);
        due("what comes is not", z.slot(8, 0), ECRU);
        z.store(0, 0, 1);
        due("what is overwritten by itself", z.slot(4, 0), GREY);
        z.store(1, 1, 2);
        due("none is overwritten", z.slot(8, 0), ECRU);
        dueAll("grey(..)", greys(z), 0, 16, 4);
        TreadRing s = startedChain(2);
        s.store(0, 0, NONE);
        dueAll("FIELD 0 alone is overwritten", greys(s), 0, 4);
        TreadRing t = startedChain(2);
        t.store(0, 1, NONE);
        dueAll("FIELD 1 alone is overwritten", greys(t), 0, 16);

        says(0, "3: none.");
        TreadRing w = startedChain(3);
        w.load(1, 0, 0);
        w.load(2, 0, 1);
        w.store(0, 0, 2);
        w.store(0, 1, NONE);
        dueAll("nothing is GREYED", greys(w), 0);

        says(0, "By 0, 1 and 2 what a ROOT comes to name by strong() is GREYED, too.");
        for (int barrier = 0; barrier <= 3; barrier++) {
            TreadRing v = chain();
            v.load(1, 0, 0);
            v.weak(2, 1);
            v.copy(1, NONE);
            v.turn(0, barrier);
            v.start();
            due("strong(4, 2)", v.strong(4, 2), 4);
            due("by BARRIER " + barrier, v.slot(4, 0), barrier < 3 ? GREY : ECRU);
            due("strong(4, 0), none", v.strong(4, 0), NONE);
            due("how many are GREY", greys(v).length, barrier < 3 ? 2 : 1);
        }
    }

    // ---- how an OBJECT is MADE

    private static void pace() {
        says(0, "An OBJECT is MADE: (a) if a CYCLE RUNS, PACE STEPS are done (fewer, if it ENDS);");
        for (int pace = 0; pace <= 16; pace++) {
            TreadRing x = quiet(8);
            x.make(0, 7);
            x.make(1, 0);
            x.turn(2, pace);
            x.make(1, 0);
            due("none RUNS", x.about(3), 0);
            x.start();
            x.make(5, 0);
            due("STEPS by PACE " + pace + " of eight", x.about(3), Math.min(pace, 8));
            due("it RUNS", x.about(1), pace < 8 ? 1 : 0);
            due("CYCLES", x.about(2), pace < 8 ? 0 : 1);
            due("FORCED", x.about(4), 0);
        }
    }

    private static void found() {
        says(0, "(b) a SLOT of its SIZE is FOUND: is none FREE, then the lowest unused PAGE becomes one of this SIZE;");
        TreadRing x = quiet(8);
        for (int i = 0; i < 4; i++) {
            x.make(0, 3);
            due("one PAGE while one is FREE", x.page(1, 0), 0);
        }
        due("none is FREE", x.many(4, FREE), 0);
        due("the lowest unused PAGE", x.make(0, 3), 16);
        due("page(1, 0)", x.page(1, 0), 4);
        due("page(2, 0)", x.page(2, 0), 0);

        says(0, "is there none, then the lowest PAGE of another SIZE all of whose SLOTS are FREE does: these leave their RING;");
        TreadRing y = freedPages(3);
        dueAll("those of PAGES 1 and 2", ring(y, 4), 36, 40, 44, 16, 20, 24, 28, 32);
        due("the lowest one", y.make(1, 7), 16);
        due("page(1, 0)", y.page(1, 0), 8);
        dueAll("they left their RING", ring(y, 4), 36, 40, 44, 32);
        due("no SLOT begins there", y.slot(20, 0), NONE);
        due("the CYCLE that ENDED is the only one", y.about(2), 1);
        due("a PAGE with one OBJECT stays: the next one", freedPages(2).make(1, 7), 16);
        TreadRing z = freedPages(4);
        due("an unused PAGE goes ahead of it", z.make(1, 7), 48);
        due("page(1, 0)", z.page(1, 0), 4);
        TreadRing w = freedPages(3);
        due("one of the SIZE is FREE: no PAGE changes", w.make(1, 2), 36);
        due("page(1, 0)", w.page(1, 0), 4);

        says(0, "(new SLOTS stand behind all FREE ones, by their ADDRESSES);");
        TreadRing v = quiet(8);
        for (int i = 0; i < 9; i++) {
            v.make(0, 0);
        }
        dueAll("the first of them is taken", ring(v, 2), 18, 20, 22, 24, 26, 28, 30, 0, 2, 4, 6, 8, 10, 12, 14, 16);
        dueAll("of a PAGE that was another's", ring(y, 8), 24, 16);
    }

    /** PAGE 0 has an OBJECT of 2 cells; PAGES 1 (and 2) had five of 4 cells, which came FREE (two PAGES: four). */
    private static TreadRing freedPages(int pages) {
        TreadRing x = quiet(pages);
        x.make(0, 0);
        litter(x, 3, pages == 2 ? 4 : 5);
        x.start();
        x.work(500);
        return x;
    }

    private static void forced() {
        says(0, "is none FREE still, then a CYCLE that RUNS is gone to its END, and a SLOT is looked for as at first;");
        TreadRing x = quiet(1);
        litter(x, 0, 7);
        x.make(0, 1);
        x.start();
        due("what came FREE", x.make(1, 0), 0);
        due("FORCED", x.about(4), 1);
        due("CYCLES", x.about(2), 1);
        TreadRing y = quiet(2);
        y.make(0, 1);
        litter(y, 7, 2);
        y.start();
        due("a PAGE of another SIZE, too", y.make(1, 2), 16);
        due("FORCED", y.about(4), 1);
        due("page(1, 0)", y.page(1, 0), 4);

        says(0, "is there none still, then a CYCLE is STARTED, gone to its END, and a SLOT is looked for once more: STEPS done so are FORCED, too;");
        TreadRing z = floating();
        due("by the second CYCLE it is FREE", z.make(2, 7), 8);
        due("STEPS", z.about(3), 21);
        due("FORCED", z.about(4), 21);
        due("CYCLES", z.about(2), 2);
        TreadRing w = quiet(1);
        w.make(0, 7);
        litter(w, 7, 1);
        due("none RUNS: one is STARTED", w.make(1, 4), 8);
        due("FORCED", w.about(4), 7);
        due("CYCLES", w.about(2), 1);
        TreadRing v = quiet(1);
        litter(v, 7, 2);
        due("it ENDS at once, and the PAGE changes", v.make(1, 0), 0);
        due("page(0, 0)", v.page(0, 0), 2);
        due("FORCED", v.about(4), 0);

        says(0, "is there none now, it can't be MADE.");
        TreadRing u = floating();
        u.copy(1, 0);
        u.make(2, 7);
        int made = u.about(6);
        due("both SLOTS are REACHED", u.make(3, 7), -2);
        due("root(3) stays", u.root(3), NONE);
        due("MADE ever", u.about(6), made);
        due("OBJECTS", u.about(7), 2);
        due("none RUNS", u.about(1), 0);
        u.turn(3, 16);
        due("once more", u.make(3, 7), -2);
        due("no CYCLE STARTS by THRESHOLD", u.about(1), 0);
    }

    /** Two OBJECTS of seven FIELDS fill the HEAP; both are GREY, and 8 is not REACHED. */
    private static TreadRing floating() {
        TreadRing x = quiet(1);
        x.make(0, 7);
        x.make(1, 7);
        x.start();
        x.copy(1, NONE);
        return x;
    }

    private static void taken() {
        says(0, "(c) The first FREE one of the RING is BLACK then (last of its RING); its FIELDS name none; the ROOT for which it is made names it.");
        TreadRing x = quiet(1);
        x.make(0, 3);
        x.make(1, 3);
        x.store(1, 0, 0);
        x.store(1, 1, 1);
        x.store(1, 2, 1);
        x.copy(1, NONE);
        x.start();
        x.work(500);
        dueAll("FREE ones, then 0", ring(x, 4), 8, 12, 4, 0);
        due("the first", x.make(2, 3), 8);
        due("the next", x.make(2, 3), 12);
        due("the last", x.make(4, 3), 4);
        dueAll("each is last then", ring(x, 4), 0, 8, 12, 4);
        due("BLACK", x.slot(4, 0), BLACK);
        for (int f = 0; f < 3; f++) {
            due("field(4, " + f + ")", x.field(4, f), NONE);
        }
        dueAll("ROOTS", roots(x), 0, NONE, 12, NONE, 4, NONE);
        TreadRing y = startedChain(0);
        y.make(1, 2);
        due("while a CYCLE RUNS, too", y.slot(12, 0), BLACK);
        due("it is not ECRU by the next PAGE", y.make(1, 7) == 32 && y.slot(32, 0) == BLACK, true);
    }

    private static void threshold() {
        says(0, "(d) If no CYCLE RUNS, and fewer than THRESHOLD SLOTS of that SIZE are FREE, one STARTS.");
        for (int threshold = 0; threshold <= 8; threshold++) {
            TreadRing x = quiet(8);
            x.turn(3, threshold);
            int made = 0;
            while (made < 8 && x.about(1) == 0) {
                x.make(0, 0);
                made++;
            }
            due("OBJECTS till it STARTS by " + threshold, made, Math.min(8, 9 - threshold));
            due("it RUNS", x.about(1), threshold == 0 ? 0 : 1);
        }
        TreadRing x = quiet(8);
        x.turn(3, 16);
        x.make(0, 0);
        due("it STARTS by 16", x.about(1), 1);
        dueAll("the new one is GREY", greys(x), 0);
        x.make(0, 0);
        due("while it RUNS none STARTS", x.about(1) == 1 && x.about(2) == 0, true);
        TreadRing y = quiet(8);
        y.turn(3, 2);
        y.make(0, 0);
        y.make(0, 2);
        due("7 and 3 are FREE", y.about(1), 0);
        y.make(0, 7);
        due("one of that SIZE is FREE", y.about(1), 1);
        TreadRing z = quiet(8);
        z.turn(3, 2);
        for (int i = 0; i < 6; i++) {
            z.make(i, 0);
        }
        due("two are FREE", z.about(1), 0);
        z.make(0, 0);
        due("one is FREE", z.about(1), 1);
        TreadRing w = quiet(1);
        w.turn(3, 1);
        w.turn(2, 16);
        w.make(0, 7);
        w.make(1, 7);
        due("none is FREE", w.about(1), 1);
        w.make(2, 0);
        due("behind the END by PACE it can't be MADE: none STARTS", w.about(1), 0);
    }

    // ---- ACTS

    private static void acts() {
        says(0, "ACTS are make(), load(), store(), copy(), weak(), strong(), start(), work(), turn(), run(), where they are not refused (make() also when it can't be MADE);");
        TreadRing x = new TreadRing();
        x.open(1);
        int acts = 0;
        x.make(0, 7);
        due("make()", x.about(13), ++acts);
        x.load(1, 0, 0);
        due("load()", x.about(13), ++acts);
        x.store(0, 0, 0);
        due("store()", x.about(13), ++acts);
        x.copy(1, 1);
        due("copy()", x.about(13), ++acts);
        x.weak(0, 0);
        due("weak()", x.about(13), ++acts);
        x.strong(1, 0);
        due("strong()", x.about(13), ++acts);
        x.work(500);
        due("work()", x.about(13), ++acts);
        x.start();
        due("start()", x.about(13), ++acts);
        x.turn(3, 0);
        due("turn()", x.about(13), ++acts);
        program(x, "a=a;");
        x.run();
        due("run()", x.about(13), ++acts);
        x.make(1, 7);
        due("make()", x.about(13), ++acts);
        due("make() that can't be", x.make(2, 7), -2);
        due("is one", x.about(13), ++acts);
        x.undo();
        int again = x.about(14);
        refusals(x);
        due("what is refused is none", x.about(13), acts - 1);
        due("nor does it end what can be done again", x.about(14), again);
        x.image(0);
        x.feed(0, 0, 0, 0, 0);
        x.cut(0);
        x.program();
        due("image(), feed(), cut(), program() are none", x.about(13), acts - 1);
        due("nor do they end that", x.about(14), again);

        says(0, "UNDO takes back the latest ACT that was not, REDO does that again which was taken back last (till another ACT);");
        TreadRing y = quiet(8);
        y.make(0, 0);
        y.make(1, 0);
        y.make(2, 0);
        y.undo();
        dueAll("the third", roots(y), 0, 2, NONE, NONE, NONE, NONE);
        y.undo();
        dueAll("the second", roots(y), 0, NONE, NONE, NONE, NONE, NONE);
        y.redo();
        dueAll("the second", roots(y), 0, 2, NONE, NONE, NONE, NONE);
        y.undo();
        y.make(5, 7);
        due("another ACT: nothing to do again", y.redo(), false);
        dueAll("ROOTS", roots(y), 0, NONE, NONE, NONE, NONE, 16);
        y.undo();
        due("that ACT can be done again", y.redo(), true);
        dueAll("ROOTS", roots(y), 0, NONE, NONE, NONE, NONE, 16);

        says(0, "20 at most are kept, the oldest go.");
        for (int n = 19; n <= 22; n++) {
            TreadRing z = new TreadRing();
            for (int i = 0; i < n; i++) {
                z.turn(2, i % 17);
            }
            due("ACTS of " + n, z.about(13), Math.min(n, 20));
            int undone = 0;
            while (undone < 30 && z.undo()) {
                undone++;
            }
            due("taken back of " + n, undone, Math.min(n, 20));
            due("done again of " + n, z.about(14), Math.min(n, 20));
            due("the PACE ahead of them", z.about(10), n <= 20 ? 2 : n - 21);
            while (undone > 0 && z.redo()) {
                undone--;
            }
            due("all are done again", undone, 0);
            due("the PACE behind them", z.about(10), (n - 1) % 17);
        }
    }

    /** On a HEAP where a CYCLE RUNS or not, without ITEMS: each ACT in a way that is refused. */
    private static void refusals(TreadRing x) {
        x.make(6, 0);
        x.make(0, 8);
        x.load(0, 5, 0);
        x.load(0, 0, 7);
        x.store(0, 7, 0);
        x.store(5, 0, 0);
        x.copy(6, 0);
        x.weak(4, 0);
        x.strong(0, 4);
        x.work(0);
        x.work(501);
        x.turn(4, 0);
        x.turn(2, 17);
        if (x.about(1) == 1) {
            x.start();
            x.turn(0, 0);
        } else {
            x.work(1);
        }
    }

    // ---- of which nothing is done

    private static void nothingDone() {
        says(0, "(Nothing is done by what follows.)");
        TreadRing x = startedChain(0);
        x.work(1);
        x.undo();
        x.redo();
        x.copy(5, 0);
        x.undo();
        x.turn(2, 1);
        program(x, "a=new 1;times 9{b=new 7;a.0=b;}step 9;");
        type(x, "abc");
        String ahead = whole(x);
        askAll(x);
        due("all is as it was", whole(x).equals(ahead), true);
        x.undo();
        ahead = whole(x);
        askAll(x);
        due("all is as it was, with something to do again", whole(x).equals(ahead) && x.about(14) == 1, true);

        says(0, "REACHED are OBJECTS that ROOTS name, and those that FIELDS of REACHED ones name.");
        TreadRing y = chain();
        due("by 0 FIELDS", y.slot(0, 5), 1);
        due("by one", y.slot(4, 5), 1);
        due("by one", y.slot(16, 5), 1);
        due("by two", y.slot(8, 5), 1);
        y.load(1, 0, 0);
        y.load(2, 1, 0);
        y.store(2, 0, 1);
        forget(y, 0, 1, 2);
        due("4 and 8 name one another, but nobody them", y.slot(4, 5) + y.slot(8, 5), 0);
        due("live(0)", y.live(0), 0);

        says(0, "TO THE END: as if STEPS were done till the CYCLE ENDS (one is STARTED first, if none RUNS).");
        TreadRing z = chain();
        litter(z, 7, 1);
        dueAll("STARTED first", ends(z), 7, 1, 8, 0);
        z.start();
        dueAll("it RUNS", ends(z), 7, 1, 8, 0);
        z.work(6);
        dueAll("one STEP is left", ends(z), 1, 1, 8, 0);
        z.work(1);
        dueAll("STARTED anew", ends(z), 7, 0, 0, 0);
        due("none RUNS", z.about(1), 0);
    }

    private static void askAll(TreadRing x) {
        for (int a = -2; a <= 20; a++) {
            x.fault(a);
            x.cheapest(a);
            x.suits();
            x.root(a);
            x.weakly(a);
            x.grey(a);
            x.live(a);
            x.end(a);
            x.law(a);
            x.about(a);
            x.retained(a);
            for (int b = -2; b <= 8; b++) {
                x.runBy(a, b);
                x.told(a, b);
                x.field(a, b);
                x.slot(a, b);
                x.ring(b, a);
                x.many(b, a);
                x.page(a, b);
                x.path(b, a);
                x.room(b, a);
                x.pace(b, a);
                x.game(b, 100 * a, 50, b);
            }
        }
    }

    private static void games() {
        says(0, "A DRAW of m: x (the seed at first) becomes 137 times x and 71 more, modulo 10,007; a DRAW is x modulo m.");
        // Seed 1: 208 (of 8: 0), 8553 (of 6: 3), 1013 (5), 8761 (1): an OBJECT of one FIELD for ROOT 3.
        TreadRing x = quiet(8);
        due("MADE by seed 1", x.game(0, 1, 1, 4), 1);
        due("OBJECTS by seed 1", x.game(0, 1, 1, 5), 1);
        // Seed 0: 71 (of 8: 7). Seed 9,999: 8982 (of 8: 6).
        due("MADE by seed 0", x.game(0, 0, 1, 4), 0);
        due("MADE by seed 9,999", x.game(0, 9_999, 1, 4), 0);
        int unlike = 0;
        for (int seed = 0; seed <= 9_999; seed++) {
            x = seed % 400 == 0 ? quiet(8) : x;
            int first = (137 * seed + 71) % 10_007 % 8;
            unlike += x.game(0, seed, 1, 4) == (first <= 2 ? 1 : 0) ? 0 : 1;
        }
        due("by each seed one is MADE if the first DRAW is 0, 1 or 2", unlike, 0);

        says(0, "A GAME of n goes by a seed, from now on: each go: a DRAW of 8, then three DRAWS of 6: r, s, f. Is the first one 0, 1 or 2: an OBJECT of f FIELDS is made for ROOT r; 3: load(r, s, f); 4, 5: store(r, f, s); 6: copy(r, s); 7: copy(r, NONE). (What is refused does nothing.)");
        for (int seed = 0; seed <= 9_999; seed += 303) {
            for (int barrier = 0; barrier <= 3; barrier++) {
                sameByCalls(seed, barrier, seed % 2 + 1);
            }
        }
    }

    /** A GAME of 1, 50 and 200 goes answers as these calls do. */
    private static void sameByCalls(int seed, int barrier, int pages) {
        TreadRing x = quiet(pages);
        x.turn(0, barrier);
        x.turn(3, 2);
        x.turn(2, 1);
        TreadRing y = quiet(pages);
        y.turn(0, barrier);
        y.turn(3, 2);
        y.turn(2, 1);
        int draw = seed;
        for (int go = 1; go <= 200; go++) {
            int[] drawn = new int[4];
            for (int k = 0; k < 4; k++) {
                draw = (137 * draw + 71) % 10_007;
                drawn[k] = draw % (k == 0 ? 8 : 6);
            }
            playGo(y, drawn);
            if (go == 1 || go == 50 || go == 200) {
                int[] got = new int[6];
                for (int what = 0; what < 6; what++) {
                    got[what] = x.game(barrier, seed, go, what);
                }
                dueAll("game(" + barrier + ", " + seed + ", " + go + ", ..)", got, y.about(3), y.about(5), y.about(4), y.about(2),
                        y.about(6), y.about(7));
            }
        }
    }

    private static void playGo(TreadRing y, int[] drawn) {
        switch (drawn[0]) {
            case 0: case 1: case 2: y.make(drawn[1], drawn[3]); break;
            case 3: y.load(drawn[1], drawn[2], drawn[3]); break;
            case 4: case 5: y.store(drawn[1], drawn[3], drawn[2]); break;
            case 6: y.copy(drawn[1], drawn[2]); break;
            default: y.copy(drawn[1], NONE); break;
        }
    }

    public static void main(String[] args) {
        pages();
        sizes();
        names();
        rings();
        start();
        orders();
        steps();
        end();
        toldCycles();
        barriers();
        pace();
        found();
        forced();
        taken();
        threshold();
        acts();
        nothingDone();
        games();
        tell();
    }
}
