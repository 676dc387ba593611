/** Promises 27 to 41, sentence by sentence: what each says of its boundary cases. */
public final class LookTest extends Asked {
    private static final int LEAST = Integer.MIN_VALUE;
    private static final int MOST = Integer.MAX_VALUE;

    /** ROOT 0 names 126, which names 124, and so on to 0: every SLOT of the HEAP. */
    private static TreadRing longChain() {
        TreadRing x = quiet(8);
        for (int i = 0; i < 64; i++) {
            x.make(1, 1);
            x.store(1, 0, 0);
            x.copy(0, 1);
        }
        x.copy(1, NONE);
        return x;
    }

    private static TreadRing threePages() {
        TreadRing x = quiet(3);
        x.make(0, 7);
        x.make(1, 0);
        x.store(0, 0, 0);
        x.store(0, 6, 1);
        return x;
    }

    // ---- 27, 28

    private static void field() {
        says(27, "What a FIELD of an OBJECT names (NONE);");
        TreadRing x = threePages();
        due("field(0, 0)", x.field(0, 0), 0);
        due("field(0, 1)", x.field(0, 1), NONE);
        due("field(0, 6)", x.field(0, 6), 16);
        litter(x, 1, 1);
        due("of one that is not REACHED, too", x.field(18, 0), NONE);

        says(27, "-2 if there is none such.");
        for (int f : new int[] {-1, 7, 8, LEAST, MOST}) {
            due("field(0, " + f + ")", x.field(0, f), -2);
        }
        due("field(16, 0), of one without FIELDS", x.field(16, 0), -2);
        due("field(18, 1), of one FIELD", x.field(18, 1), -2);
        due("field(8, 0), of a FREE one", x.field(8, 0), -2);
        for (int address : new int[] {1, 2, 4, 17, 32, 48, 126, 127, 128, -1, -2, -16, LEAST, MOST, MOST - 1}) {
            due("field(" + address + ", 0)", x.field(address, 0), -2);
        }
        x.start();
        x.work(500);
        due("of one that came FREE", x.field(18, 0), -2);
    }

    private static int[] slot(TreadRing x, int address) {
        int[] all = new int[6];
        for (int what = 0; what <= 5; what++) {
            all[what] = x.slot(address, what);
        }
        return all;
    }

    private static void slots() {
        says(28, "Of the SLOT that begins at an ADDRESS what 0: COLOUR, 1: SIZE, 2: how many FIELDS its OBJECT has (0: FREE), 3: FIELDS that name an OBJECT, 4: how many FIELDS were looked at (0, if it is not being scanned), 5: 1 if it is REACHED, else 0.");
        TreadRing x = threePages();
        litter(x, 1, 1);
        dueAll("an OBJECT", slot(x, 0), BLACK, 8, 7, 2, 0, 1);
        dueAll("a FREE one", slot(x, 8), FREE, 8, 0, 0, 0, 0);
        dueAll("one without FIELDS", slot(x, 16), BLACK, 2, 0, 0, 0, 1);
        dueAll("one that is not REACHED", slot(x, 18), BLACK, 2, 1, 0, 0, 0);
        x.start();
        dueAll("GREY, not taken", slot(x, 0), GREY, 8, 7, 2, 0, 1);
        dueAll("ECRU", slot(x, 18), ECRU, 2, 1, 0, 0, 0);
        for (int looked = 1; looked <= 6; looked++) {
            x.work(1);
            dueAll("being scanned", slot(x, 0), GREY, 8, 7, 2, looked, 1);
            due("another one is not", x.slot(16, 4), 0);
        }
        x.work(1);
        dueAll("BLACK", slot(x, 0), BLACK, 8, 7, 2, 0, 1);
        x.work(500);
        dueAll("it came FREE", slot(x, 18), FREE, 2, 0, 0, 0, 0);
        for (int f = 0; f < 7; f++) {
            x.store(0, f, 0);
        }
        due("each FIELD names one", x.slot(0, 3), 7);

        otherSize();

        says(28, "NONE if there is none such, or for another what.");
        for (int address : new int[] {1, 2, 4, 6, 10, 15, 17, 32, 48, 126, 127, 128, -1, -2, LEAST, MOST, MOST - 1}) {
            dueAll("slot(" + address + ", ..)", slot(x, address), NONE, NONE, NONE, NONE, NONE, NONE);
        }
        for (int what : new int[] {-1, 6, LEAST, MOST}) {
            due("slot(0, " + what + ")", x.slot(0, what), NONE);
            due("slot(8, " + what + ")", x.slot(8, what), NONE);
        }
        TreadRing y = longChain();
        dueAll("the last SLOT", slot(y, 126), BLACK, 2, 1, 1, 0, 1);
    }

    /** PAGE 0 had an OBJECT all of whose FIELDS named one; it is of another SIZE then. */
    private static void otherSize() {
        for (int fields = 1; fields <= 3; fields += 2) {
            TreadRing x = quiet(1);
            x.make(0, 7);
            x.make(1, 5);
            for (int f = 0; f < 7; f++) {
                x.store(0, f, 1);
            }
            forget(x, 0, 1);
            x.start();
            due("the PAGE is of another SIZE", x.make(5, fields) == 0 && x.page(0, 0) == fields + 1, true);
            for (int address = fields + 1; address < 16; address += fields + 1) {
                dueAll("FREE ones of it", slot(x, address), FREE, fields + 1, 0, 0, 0, 0);
            }
        }
    }

    // ---- 29 .. 32

    private static void ringsAndPages() {
        says(29, "The ADDRESS of the i-th (0 ..) SLOT of the RING of a SIZE;");
        TreadRing x = longChain();
        for (int i = 0; i < 64; i++) {
            due("ring(2, " + i + ")", x.ring(2, i), 2 * i);
        }
        TreadRing y = threePages();
        dueAll("those of 8 cells", ring(y, 8), 8, 0);
        dueAll("those of 2 cells", ring(y, 2), 18, 20, 22, 24, 26, 28, 30, 16);

        says(29, "NONE if there is none such.");
        due("ring(2, 64)", x.ring(2, 64), NONE);
        due("ring(8, 2)", y.ring(8, 2), NONE);
        due("ring(4, 0), an empty one", y.ring(4, 0), NONE);
        for (int i : new int[] {-1, LEAST, MOST}) {
            due("ring(2, " + i + ")", y.ring(2, i), NONE);
        }
        for (int size : new int[] {0, 1, 3, 5, 6, 7, 9, 16, -2, -4, LEAST, MOST}) {
            due("ring(" + size + ", 0)", y.ring(size, 0), NONE);
        }

        says(30, "How many SLOTS of a SIZE have a COLOUR;");
        int[][] due = {{1, 1, 1, 1}, {7, 0, 1, 0}, {0, 0, 0, 0}};
        TreadRing z = startedChain(0);
        z.work(2);
        for (int colour = 0; colour <= 3; colour++) {
            due("many(4, " + colour + ")", z.many(4, colour), due[0][colour]);
            due("many(2, " + colour + ")", z.many(2, colour), due[1][colour]);
            due("many(8, " + colour + ")", z.many(8, colour), due[2][colour]);
        }
        due("all the HEAP", x.many(2, BLACK), 64);

        says(30, "NONE if there are none such.");
        for (int size : new int[] {0, 1, 3, 5, 6, 7, 9, 16, -2, LEAST, MOST}) {
            due("many(" + size + ", 0)", z.many(size, 0), NONE);
        }
        for (int colour : new int[] {-1, 4, LEAST, MOST}) {
            due("many(2, " + colour + ")", z.many(2, colour), NONE);
        }

        says(31, "Of a PAGE what 0: SIZE (0: unused), 1: SLOTS that are FREE, 2: SLOTS that are not.");
        int[][] pages = {{8, 1, 1}, {2, 7, 1}, {0, 0, 0}};
        for (int page = 0; page < 3; page++) {
            for (int what = 0; what < 3; what++) {
                due("page(" + page + ", " + what + ")", y.page(page, what), pages[page][what]);
            }
        }
        dueAll("the last PAGE, full", new int[] {x.page(7, 0), x.page(7, 1), x.page(7, 2)}, 2, 0, 8);
        forget(y, 0, 1);
        y.start();
        dueAll("all FREE, still of its SIZE", new int[] {y.page(0, 0), y.page(0, 1), y.page(0, 2)}, 8, 2, 0);

        says(31, "NONE if there is none such, or for another what.");
        for (int page : new int[] {-1, 3, 8, LEAST, MOST}) {
            due("page(" + page + ", 0)", y.page(page, 0), NONE);
        }
        for (int what : new int[] {-1, 3, LEAST, MOST}) {
            due("page(0, " + what + ")", y.page(0, what), NONE);
            due("page(2, " + what + ")", y.page(2, what), NONE);
        }
        due("page(8, 0) of eight", x.page(8, 0), NONE);
    }

    private static void grey() {
        says(32, "The i-th GREY one that is taken, from now on, were no other one GREYED (the one being scanned first);");
        int[][] due = {{0, 4, 18, 16}, {0, 16, 18, 4}, {0, 18, 16, 4}, {0, 4, 16, 18}};
        for (int order = 0; order <= 3; order++) {
            TreadRing x = quiet(8);
            x.make(0, 2);
            x.make(1, 2);
            x.make(3, 0);
            x.make(2, 0);
            x.start();
            x.work(1);
            x.turn(1, order);
            dueAll("by ORDER " + order, greys(x), due[order]);
        }
        TreadRing y = quiet(8);
        for (int root = 0; root < 6; root++) {
            y.make(root, 7);
        }
        y.start();
        dueAll("those of ROOTS", greys(y), 0, 8, 16, 24, 32, 40);
        y.turn(1, 1);
        dueAll("the last first", greys(y), 40, 32, 24, 16, 8, 0);
        y.work(1);
        y.turn(1, 0);
        dueAll("40 is being scanned", greys(y), 40, 0, 8, 16, 24, 32);

        says(32, "NONE if there is none such.");
        for (int i : new int[] {-1, 6, 7, 64, LEAST, MOST}) {
            due("grey(" + i + ")", y.grey(i), NONE);
        }
        due("while none RUNS", chain().grey(0), NONE);
        due("on an empty HEAP", new TreadRing().grey(0), NONE);
        y.work(500);
        due("behind the END", y.grey(0), NONE);
    }

    // ---- 33 .. 36

    private static int[] live(TreadRing x) {
        return new int[] {x.live(0), x.live(1), x.live(2), x.live(3)};
    }

    private static void live() {
        says(33, "Of OBJECTS what 0: REACHED ones, 1: cells of their SLOTS, 2: those not REACHED, 3: those not REACHED, not ECRU (while a CYCLE RUNS; else 0).");
        dueAll("on an empty HEAP", live(new TreadRing()), 0, 0, 0, 0);
        dueAll("all the HEAP", live(longChain()), 64, 128, 0, 0);
        TreadRing x = chain();
        litter(x, 7, 1);
        dueAll("one not REACHED", live(x), 4, 14, 1, 0);
        x.start();
        dueAll("it is ECRU", live(x), 4, 14, 1, 0);
        x.load(1, 0, 0);
        x.copy(0, NONE);
        dueAll("0 is GREY; 16 and 32 are ECRU", live(x), 2, 8, 3, 1);
        litter(x, 0, 2);
        dueAll("two new ones are BLACK", live(x), 2, 8, 5, 3);
        x.work(500);
        dueAll("0, 16 and two are left; none RUNS", live(x), 2, 8, 4, 0);

        says(33, "NONE for another what.");
        for (int what : new int[] {-1, 4, LEAST, MOST}) {
            due("live(" + what + ")", x.live(what), NONE);
        }
    }

    private static void paths() {
        says(34, "The fewest FIELDS by which one comes from a ROOT to an OBJECT (0: it names it);");
        TreadRing x = longChain();
        for (int i = 0; i < 64; i++) {
            due("path(0, " + 2 * i + ")", x.path(0, 2 * i), 63 - i);
        }
        TreadRing y = chain();
        y.load(5, 0, 0);
        y.store(5, 1, 0);
        due("from another ROOT, round", y.path(5, 16), 2);
        due("by itself", y.path(5, 4), 0);
        y.load(4, 5, 0);
        y.store(0, 1, 4);
        due("the fewest of two ways", y.path(0, 8), 1);
        y.store(0, 0, 4);
        due("the other way is gone", y.path(0, 4), NONE);

        TreadRing z = startedChain(0);
        z.work(2);
        dueAll("whatever COLOUR it has", new int[] {z.path(0, 0), z.path(0, 4), z.path(0, 8), z.path(0, 16)}, 0, 1, 2, 1);

        says(34, "NONE if not at all, there is no such ROOT or OBJECT.");
        due("path(1, 0), of a ROOT that names none", y.path(1, 0), NONE);
        due("path(4, 0), not at all", y.path(4, 0), NONE);
        due("path(0, 16), REACHED by none", y.path(0, 16), NONE);
        for (int root : new int[] {-1, 6, LEAST, MOST}) {
            due("path(" + root + ", 0)", y.path(root, 0), NONE);
        }
        for (int address : new int[] {12, 18, 1, 2, 32, 127, 128, -1, -2, LEAST, MOST}) {
            due("path(0, " + address + ")", y.path(0, address), NONE);
            due("path(1, " + address + ")", y.path(1, address), NONE);
        }
    }

    private static void retained() {
        says(35, "How many OBJECTS would not be REACHED without one that is (itself, too);");
        TreadRing x = longChain();
        for (int i = 0; i < 64; i++) {
            due("retained(" + 2 * i + ")", x.retained(2 * i), i + 1);
        }
        // 0 names 4 and 16; 4 names 8; then 8 names 16, too: 16 stays by the other way.
        TreadRing y = chain();
        y.load(1, 0, 0);
        y.load(2, 1, 0);
        y.load(3, 0, 1);
        y.store(2, 0, 3);
        forget(y, 1, 2, 3);
        due("all of it", y.retained(0), 4);
        due("one of two ways", y.retained(4), 2);
        due("one of two ways", y.retained(8), 1);
        due("by both ways", y.retained(16), 1);
        y.copy(5, 0);
        due("by two ROOTS itself, too", y.retained(0), 4);
        y.load(5, 0, 1);
        due("a ROOT keeps 16", y.retained(0), 3);

        TreadRing z = startedChain(0);
        z.work(2);
        dueAll("whatever COLOUR it has", new int[] {z.retained(0), z.retained(4), z.retained(8), z.retained(16)}, 4, 2, 1, 1);

        says(35, "NONE if it is not REACHED.");
        y.store(0, 0, NONE);
        due("retained(4)", y.retained(4), NONE);
        due("retained(8), that 4 names", y.retained(8), NONE);
        for (int address : new int[] {12, 18, 1, 2, 32, 127, 128, -1, -2, LEAST, MOST}) {
            due("retained(" + address + ")", y.retained(address), NONE);
        }
    }

    private static void end() {
        says(36, "TO THE END what 0: STEPS, 1: OBJECTS that are FREE by it, 2: cells of their SLOTS, 3: how many are LOST by it.");
        dueAll("of an empty HEAP", ends(new TreadRing()), 0, 0, 0, 0);
        dueAll("of all the HEAP", ends(longChain()), 64, 0, 0, 0);
        TreadRing x = longChain();
        x.copy(0, NONE);
        dueAll("no ROOT names one", ends(x), 0, 64, 128, 0);
        TreadRing y = startedChain(3);
        y.load(1, 0, 0);
        y.load(2, 0, 1);
        y.make(3, 2);
        y.store(3, 0, 1);
        y.store(3, 1, 2);
        y.store(0, 0, NONE);
        y.store(0, 1, NONE);
        dueAll("4, 8 and 16 by two FIELDS, two ROOTS", ends(y), 2, 3, 10, 4);
        due("nothing is LOST yet", y.about(5), 0);
        y.work(1);
        dueAll("one STEP is done", ends(y), 1, 3, 10, 4);
        y.work(1);
        due("it is so", y.about(5), 4);
        dueAll("STARTED anew", ends(y), 4, 0, 0, 0);

        says(36, "NONE for another what.");
        for (int what : new int[] {-1, 4, LEAST, MOST}) {
            due("end(" + what + ")", y.end(what), NONE);
        }
    }

    // ---- 37, 38

    private static void room() {
        says(37, "How many OBJECTS of so many FIELDS could be MADE one by one for ROOT 0, 64 at most (no STEP being FORCED: what 0; at all: 1);");
        int[] slots = {8, 8, 4, 4, 2, 2, 2, 2};
        for (int fields = 0; fields <= 7; fields++) {
            for (int pages = 1; pages <= 8; pages++) {
                TreadRing x = quiet(pages);
                due("room(" + fields + ", 0)", x.room(fields, 0), slots[fields] * pages);
                due("room(" + fields + ", 1)", x.room(fields, 1), 64);
            }
        }
        TreadRing y = quiet(1);
        y.turn(3, 1);
        due("none ENDS in time", y.room(0, 0), 8);
        y.turn(2, 1);
        due("each CYCLE ENDS by one STEP", y.room(0, 0), 64);
        TreadRing z = quiet(1);
        z.make(0, 7);
        due("ROOT 0 names the new one alone", z.room(7, 1), 64);
        due("one beside it", z.room(7, 0), 1);
        z.copy(1, 0);
        due("ROOT 1 keeps it", z.room(7, 1), 1);
        z.make(0, 7);
        due("no SLOT at all", z.room(7, 0) + z.room(7, 1) + z.room(0, 0) + z.room(0, 1), 0);
        forget(z, 0, 1);
        due("a CYCLE that ENDS without a STEP forces none", z.room(7, 0), 2);
        due("nothing is done", z.about(7) == 2 && z.about(2) == 0, true);
        TreadRing w = quiet(1);
        w.make(0, 7);
        litter(w, 7, 1);
        w.start();
        due("a STEP of a CYCLE that RUNS is FORCED", w.room(7, 0), 0);
        due("at all", w.room(7, 1), 64);
        w.turn(2, 7);
        due("by PACE it ENDS in time, once", w.room(7, 0), 1);
        w.turn(2, 6);
        due("by one STEP less not", w.room(7, 0), 0);

        says(37, "NONE if there is no such number, or for another what.");
        for (int fields : new int[] {-1, 8, LEAST, MOST}) {
            due("room(" + fields + ", 0)", y.room(fields, 0), NONE);
            due("room(" + fields + ", 1)", y.room(fields, 1), NONE);
        }
        for (int what : new int[] {-1, 2, LEAST, MOST}) {
            due("room(0, " + what + ")", y.room(0, what), NONE);
        }
    }

    private static void pace() {
        says(38, "The least PACE (0 .. 16) by which n (1 .. 64) such can be MADE one by one for ROOT 0 without FORCED STEPS;");
        TreadRing x = quiet(8);
        due("pace(0, 1)", x.pace(0, 1), 0);
        due("pace(0, 64), by the HEAP alone", x.pace(0, 64), 0);
        TreadRing y = quiet(1);
        y.turn(3, 1);
        due("pace(0, 8)", y.pace(0, 8), 0);
        due("pace(0, 9): one STEP", y.pace(0, 9), 1);
        due("pace(0, 64)", y.pace(0, 64), 1);
        due("pace(7, 2)", y.pace(7, 2), 0);
        due("pace(7, 3): seven STEPS", y.pace(7, 3), 7);
        y.turn(2, 16);
        due("whatever PACE there is", y.pace(7, 3), 7);
        due("that stays", y.about(10), 16);
        TreadRing z = quiet(1);
        z.make(0, 7);
        litter(z, 7, 1);
        z.start();
        due("the CYCLE that RUNS has seven STEPS", z.pace(7, 1), 7);
        z.work(3);
        due("four are left", z.pace(7, 1), 4);
        TreadRing w = quiet(2);
        w.turn(3, 1);
        program(w, "a=new 3;b=new 3;c=new 3;d=new 7;d=new 7;");
        w.run();
        due("sixteen STEPS", w.pace(7, 1), 16);

        says(38, "NONE if by none, or there are no such numbers.");
        TreadRing v = quiet(3);
        program(v, "a=new 3;b=new 3;c=new 3;f=new 0;d=new 7;");
        v.run();
        v.turn(3, 1);
        v.make(3, 7);
        due("seventeen STEPS", v.end(0) == 17 && v.pace(7, 1) == NONE, true);
        due("no SLOT", w.pace(0, 1), NONE);
        TreadRing u = quiet(1);
        due("no CYCLE STARTS", u.pace(0, 9), NONE);
        due("one can be MADE alone", z.undo() && z.copy(1, 0) && z.pace(7, 2) == NONE && z.pace(7, 1) == 7, true);
        for (int n : new int[] {0, 65, -1, LEAST, MOST}) {
            due("pace(0, " + n + ")", x.pace(0, n), NONE);
        }
        for (int fields : new int[] {-1, 8, LEAST, MOST}) {
            due("pace(" + fields + ", 1)", x.pace(fields, 1), NONE);
        }
    }

    // ---- 39 .. 41

    private static int[] game(TreadRing x, int barrier, int seed, int n) {
        int[] all = new int[6];
        for (int what = 0; what <= 5; what++) {
            all[what] = x.game(barrier, seed, n, what);
        }
        return all;
    }

    /** ROOTS 0 .. 4 name OBJECTS of six FIELDS, each of which names one without FIELDS; then a CYCLE STARTS by each one MADE. */
    private static TreadRing rich(int barrier) {
        TreadRing x = quiet(8);
        for (int root = 0; root <= 4; root++) {
            x.make(root, 6);
        }
        for (int i = 0; i < 30; i++) {
            x.make(5, 0);
            x.store(i % 5, i / 5, 5);
        }
        x.copy(5, NONE);
        x.turn(0, barrier);
        x.turn(2, 1);
        x.turn(3, 16);
        return x;
    }

    /** What the GAME does, done: how much came of it. */
    private static int[] byCalls(int barrier, int seed, int n) {
        TreadRing x = rich(barrier);
        int draw = seed;
        for (int go = 0; go < n; go++) {
            int[] drawn = new int[4];
            for (int k = 0; k < 4; k++) {
                draw = (137 * draw + 71) % 10_007;
                drawn[k] = draw % (k == 0 ? 8 : 6);
            }
            switch (drawn[0]) {
                case 0: case 1: case 2: x.make(drawn[1], drawn[3]); break;
                case 3: x.load(drawn[1], drawn[2], drawn[3]); break;
                case 4: case 5: x.store(drawn[1], drawn[3], drawn[2]); break;
                case 6: x.copy(drawn[1], drawn[2]); break;
                default: x.copy(drawn[1], NONE); break;
            }
        }
        return new int[] {x.about(3), x.about(5), x.about(4), x.about(2), x.about(6) - 35, x.about(7)};
    }

    /** How many goes make an OBJECT. */
    private static int makes(int seed, int n) {
        int draw = seed;
        int made = 0;
        for (int i = 0; i < 4 * n; i++) {
            draw = (137 * draw + 71) % 10_007;
            made += i % 4 == 0 && draw % 8 <= 2 ? 1 : 0;
        }
        return made;
    }

    private static void games() {
        says(39, "A GAME of n (1 .. 200) goes by a seed (0 .. 9,999) with a BARRIER in place of that there is (a CYCLE that RUNS is gone to its END first, which does not count):");
        // Seed 0: one go, copy(0, NONE). Seed 1: one go, an OBJECT of one FIELD for ROOT 3.
        for (int there = 0; there <= 3; there++) {
            TreadRing x = chain();
            x.turn(0, there);
            x.start();
            x.load(5, 0, 0);
            x.store(0, 0, NONE);
            int left = there == 3 ? 2 : 4;
            for (int barrier = 0; barrier <= 3; barrier++) {
                dueAll("by seed 0, while a CYCLE RUNS by " + there, game(x, barrier, 0, 1), 0, 0, 0, 0, 0, left);
                dueAll("by seed 1, while a CYCLE RUNS by " + there, game(x, barrier, 1, 1), 0, 0, 0, 0, 1, left + 1);
            }
            due("it RUNS still", x.about(1), 1);
            due("the BARRIER stays", x.about(8), there);
        }
        TreadRing y = new TreadRing();
        due("seed 9,999", y.game(3, 9_999, 1, 4), 0);
        for (int seed : new int[] {0, 1, 5_000, 9_998, 9_999}) {
            for (int n : new int[] {1, 2, 3, 100, 199, 200}) {
                due("MADE by " + n + " goes of seed " + seed, y.game(0, seed, n, 4), makes(seed, n));
            }
        }

        says(39, "what 0: STEPS, 1: how many are LOST, 2: FORCED STEPS, 3: CYCLES that ENDED, 4: OBJECTS that were MADE (all by these goes), 5: OBJECTS at its end;");
        int lost = 0;
        for (int seed : new int[] {0, 116, 2_717, 5_000, 9_999}) {
            for (int barrier = 0; barrier <= 3; barrier++) {
                for (int n : new int[] {1, 60, 200}) {
                    int[] got = game(rich(barrier == 0 ? 1 : 0), barrier, seed, n);
                    dueAll("game(" + barrier + ", " + seed + ", " + n + ", ..)", got, byCalls(barrier, seed, n));
                    due("by a BARRIER none are LOST", barrier < 3 && got[1] > 0, false);
                    lost += got[1];
                }
            }
        }
        due("by none some are", lost > 0, true);
        TreadRing z = rich(0);
        game(z, 3, 116, 200);
        dueAll("none ever", new int[] {z.about(3), z.about(5), z.about(6), z.about(7)}, 0, 0, 35, 35);

        says(39, "NONE if there are none such, or for another what.");
        for (int barrier : new int[] {-1, 4, LEAST, MOST}) {
            due("game(" + barrier + ", 0, 1, 0)", z.game(barrier, 0, 1, 0), NONE);
        }
        for (int seed : new int[] {-1, 10_000, 10_007, LEAST, MOST}) {
            due("game(0, " + seed + ", 1, 0)", z.game(0, seed, 1, 0), NONE);
        }
        for (int n : new int[] {0, 201, -1, LEAST, MOST}) {
            due("game(0, 0, " + n + ", 0)", z.game(0, 0, n, 0), NONE);
        }
        for (int what : new int[] {-1, 6, LEAST, MOST}) {
            due("game(0, 0, 1, " + what + ")", z.game(0, 0, 1, what), NONE);
        }
    }

    private static void law() {
        says(40, "How many BLACK OBJECTS have a FIELD that names an ECRU one (what 0), how many FIELDS, ROOTS name a SLOT that is FREE (1);");
        due("of an empty HEAP", new TreadRing().law(0) + new TreadRing().law(1), 0);
        TreadRing x = startedChain(3);
        due("4 is ECRU, 0 is GREY", x.law(0), 0);
        x.load(1, 0, 0);
        x.load(2, 1, 0);
        x.make(3, 3);
        x.store(3, 0, 0);
        due("a BLACK one over a GREY one", x.law(0), 0);
        x.store(3, 1, 1);
        x.store(3, 2, 2);
        due("two of its FIELDS", x.law(0), 1);
        x.store(3, 1, NONE);
        due("the last of its FIELDS", x.law(0), 1);
        x.make(4, 7);
        x.store(4, 6, 1);
        due("another one", x.law(0), 2);
        x.make(5, 1);
        x.store(5, 0, 3);
        due("a BLACK one over a BLACK one", x.law(0), 2);
        x.store(5, 0, 1);
        due("its only FIELD", x.law(0), 3);
        x.store(5, 0, NONE);
        x.store(3, 2, NONE);
        x.store(3, 0, 2);
        due("the first of its FIELDS", x.law(0), 2);
        x.store(3, 0, NONE);
        x.store(3, 2, 2);
        x.make(5, 4);
        due("one of four FIELDS that name none, while 4 is ECRU", x.law(0), 2);
        due("law(1)", x.law(1), 0);
        x.store(0, 0, NONE);
        x.work(500);
        due("behind the END none is ECRU", x.law(0), 0);
        due("what named FREE ones names none", x.law(1), 0);
        due("LOST: two FIELDS, two ROOTS", x.about(5), 4);

        // 4 has two FIELDS, where an OBJECT was whose third one named 0; and 0 is ECRU.
        TreadRing y = quiet(1);
        y.make(0, 3);
        y.make(1, 3);
        y.store(1, 2, 0);
        y.make(2, 3);
        y.copy(1, NONE);
        y.start();
        y.work(500);
        litter(y, 3, 1);
        y.copy(0, NONE);
        y.start();
        due("make(1, 2)", y.make(1, 2), 4);
        due("no FIELD that is not there", y.slot(0, 0) == ECRU && y.law(0) == 0, true);

        says(40, "NONE for another what.");
        for (int what : new int[] {-1, 2, LEAST, MOST}) {
            due("law(" + what + ")", x.law(what), NONE);
        }
    }

    private static int[] about(TreadRing x) {
        int[] all = new int[19];
        for (int what = 0; what <= 18; what++) {
            all[what] = x.about(what);
        }
        return all;
    }

    private static void about() {
        says(41, "What 0: PAGES, 1: 1 if a CYCLE RUNS, else 0, 2: CYCLES that ENDED, 3: STEPS ever, 4: FORCED ones ever, 5: LOST ever, 6: OBJECTS that were MADE ever, 7: OBJECTS that there are, 8: BARRIER, 9: ORDER, 10: PACE, 11: THRESHOLD, 12: the ADDRESS of the one being scanned (NONE), 13: ACTS that can be taken back, 14: done again, 15: CLEARED ever, 16: CYCLES that are TOLD, 17: ITEMS of the PROGRAM, 18: bytes on the TAPE.");
        TreadRing x = quiet(2);
        x.turn(0, 3);
        x.turn(1, 1);
        x.make(0, 4);
        x.make(1, 5);
        x.make(2, 0);
        x.store(0, 0, 2);
        x.weak(1, 2);
        x.weak(2, 2);
        x.weak(3, 2);
        x.copy(2, NONE);
        dueAll("none ENDED", about(x), 2, 0, 0, 0, 0, 0, 3, 3, 3, 1, 0, 0, NONE, 12, 0, 0, 0, 0, 0);
        x.start();
        x.load(5, 0, 0);
        x.store(0, 0, NONE);
        due("FORCED to the END, by which 16 is LOST and CLEARED", x.make(4, 7), 16);
        dueAll("one ENDED", about(x), 2, 0, 1, 9, 9, 1, 4, 3, 3, 1, 0, 0, NONE, 16, 0, 3, 1, 0, 0);
        x.turn(2, 3);
        x.start();
        x.work(2);
        x.turn(3, 5);
        due("about(11)", x.about(11), 5);
        x.undo();
        program(x, "a=b;c=d;");
        type(x, "abcde");
        dueAll("one RUNS", about(x), 2, 1, 1, 11, 9, 1, 4, 3, 3, 1, 3, 0, 16, 19, 1, 3, 1, 2, 5);

        says(41, "-2 for another what.");
        for (int what : new int[] {-1, 19, -2, LEAST, MOST}) {
            due("about(" + what + ")", x.about(what), -2);
        }
    }

    public static void main(String[] args) {
        field();
        slots();
        ringsAndPages();
        grey();
        live();
        paths();
        retained();
        end();
        room();
        pace();
        games();
        law();
        about();
        tell();
    }
}
