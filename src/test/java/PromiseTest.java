/** Each promise of the document by its number: ordinary calls, the edges that it names, wrong ones. */
public final class PromiseTest extends Asked {
    private static void fresh() {
        TreadRing x = new TreadRing();
        int[] about = {8, 0, 0, 0, 0, 0, 0, 0, 0, 0, 2, 2, -1, 0, 0, 0, 0, 0, 0};
        for (int what = 0; what < about.length; what++) {
            due("about(" + what + ")", x.about(what), about[what]);
        }
        for (int page = 0; page < 8; page++) {
            due("page(.., 0)", x.page(page, 0), 0);
        }
        due("NONE", TreadRing.NONE, -1);
    }

    private static void open() {
        TreadRing x = chain();
        x.turn(0, 3);
        x.turn(1, 2);
        x.weak(0, 0);
        x.start();
        x.work(1);
        x.image(0);
        program(x, "a = none;");
        type(x, "abc");
        due("open(0)", x.open(0), false);
        due("open(9)", x.open(9), false);
        due("open(-1)", x.open(-1), false);
        due("about(7) behind it", x.about(7), 4);
        due("open(8)", x.open(8) && x.about(0) == 8, true);
        due("open(1)", x.open(1), true);
        int[] about = {1, 0, 0, 0, 0, 0, 0, 0, 0, 0, 2, 2, -1, 0, 0, 0, 0, 1, 3};
        for (int what = 0; what < about.length; what++) {
            due("about(" + what + ")", x.about(what), about[what]);
        }
        due("page(1, 0)", x.page(1, 0), -1);
        due("root(0)", x.root(0), -1);
        due("weakly(0)", x.weakly(0), -1);
        due("ring(4, 0)", x.ring(4, 0), -1);
        due("undo()", x.undo(), false);
        due("back(0)", x.back(0), 4);
        due("about(0)", x.about(0), 8);
    }

    private static void make() {
        TreadRing x = quiet(2);
        due("make(-1, 0)", x.make(-1, 0), -1);
        due("make(6, 0)", x.make(6, 0), -1);
        due("make(0, -1)", x.make(0, -1), -1);
        due("make(0, 8)", x.make(0, 8), -1);
        due("about(13)", x.about(13), 2);
        due("make(0, 1)", x.make(0, 1), 0);
        due("make(1, 0)", x.make(1, 0), 2);
        due("make(2, 3)", x.make(2, 3), 16);
        due("slot(16, 1)", x.slot(16, 1), 4);
        due("make(3, 2)", x.make(3, 2), 20);
        due("field(20, 1)", x.field(20, 1), -1);
        due("root(3)", x.root(3), 20);
        due("make(4, 4) finds no PAGE", x.make(4, 4), -2);
        due("root(4) stays", x.root(4), -1);
        due("FORCED: 1 + 1 + 3 + 2", x.about(4), 7);
        due("an ACT all the same", x.about(13), 7);
        due("MADE", x.about(6), 4);
        x.copy(2, -1);
        x.copy(3, -1);
        due("make(4, 4) takes the PAGE over", x.make(4, 4), 16);
        due("page(1, 0)", x.page(1, 0), 8);
        due("ring(4, 0)", x.ring(4, 0), -1);
        due("ring(8, 0)", x.ring(8, 0), 24);
        due("ring(8, 1)", x.ring(8, 1), 16);
        due("make(5, 7)", x.make(5, 7), 24);
        due("FORCED, two for the PAGE", x.about(4), 9);

        TreadRing y = new TreadRing();
        y.open(1);
        for (int i = 0; i < 6; i++) {
            y.make(i, 0);
        }
        due("no CYCLE yet: two are FREE", y.about(1), 0);
        y.copy(0, -1);
        y.make(0, 0);
        due("THRESHOLD: one is FREE, a CYCLE STARTS", y.about(1), 1);
        due("what ROOTS name is GREY", y.many(2, 2), 6);
        due("what none does is ECRU", y.many(2, 1), 1);
        y.make(0, 0);
        due("PACE STEPS", y.about(3), 2);
        due("none FORCED", y.about(4), 0);
        due("the new one is BLACK", y.slot(14, 0), 3);
        due("last of its RING", y.ring(2, 7), 14);
        due("the CYCLE that RUNS is gone to its END", y.make(1, 0), 0);
        due("(two by PACE, two more)", y.about(3), 6);
        due("are FORCED", y.about(4), 2);
        due("another STARTS", y.about(1), 1);
        due("one ENDED", y.about(2), 1);
    }

    private static void load() {
        TreadRing x = chain();
        due("load(1, 0, 0)", x.load(1, 0, 0), 4);
        due("root(1)", x.root(1), 4);
        due("load(1, 1, 0), itself", x.load(1, 1, 0), 8);
        due("load(2, 1, 1), none", x.load(2, 1, 1), -1);
        int acts = x.about(13);
        due("load(0, 2, 0)", x.load(0, 2, 0), -2);
        due("load(0, 1, 2)", x.load(0, 1, 2), -2);
        due("load(0, 1, -1)", x.load(0, 1, -1), -2);
        due("load(6, 0, 0)", x.load(6, 0, 0), -2);
        due("load(-1, 0, 0)", x.load(-1, 0, 0), -2);
        due("load(0, 6, 0)", x.load(0, 6, 0), -2);
        due("load(0, -1, 0)", x.load(0, -1, 0), -2);
        due("no ACTS", x.about(13), acts);
        due("root(0)", x.root(0), 0);
        x.start();
        due("slot(4, 0)", x.slot(4, 0), 1);
        x.load(3, 0, 0);
        due("BARRIER 0 makes it GREY", x.slot(4, 0), 2);
        for (int barrier = 1; barrier <= 3; barrier++) {
            TreadRing y = chain();
            y.turn(0, barrier);
            y.start();
            y.load(3, 0, 0);
            due("BARRIER " + barrier + " does not", y.slot(4, 0), 1);
        }
    }

    private static void store() {
        TreadRing x = chain();
        due("store(0, 1, 0)", x.store(0, 1, 0), true);
        due("field(0, 1)", x.field(0, 1), 0);
        due("store(0, 1, NONE)", x.store(0, 1, -1), true);
        due("field(0, 1)", x.field(0, 1), -1);
        due("store(0, 0, 5), a ROOT of none", x.store(0, 0, 5), true);
        due("field(0, 0)", x.field(0, 0), -1);
        int acts = x.about(13);
        due("store(0, 2, 0)", x.store(0, 2, 0), false);
        due("store(0, -1, 0)", x.store(0, -1, 0), false);
        due("store(1, 0, 0)", x.store(1, 0, 0), false);
        due("store(6, 0, 0)", x.store(6, 0, 0), false);
        due("store(-1, 0, 0)", x.store(-1, 0, 0), false);
        due("store(0, 0, 6)", x.store(0, 0, 6), false);
        due("store(0, 0, -2)", x.store(0, 0, -2), false);
        due("no ACTS", x.about(13), acts);
        int[] newOne = {1, 2, 1, 1};
        int[] oldOne = {1, 1, 2, 1};
        for (int barrier = 0; barrier <= 3; barrier++) {
            TreadRing y = chain();
            y.turn(0, barrier);
            y.start();
            due("store(0, 1, NONE) over 16", y.store(0, 1, -1), true);
            due("the old one by BARRIER " + barrier, y.slot(16, 0), oldOne[barrier]);
            y.undo();
            y.store(0, 0, -1);
            due("no other FIELD's", y.slot(16, 0), 1);
            y.store(0, 0, 0);
            due("no other FIELD's", y.slot(16, 0), 1);
            TreadRing z = chain();
            z.turn(0, barrier);
            z.make(1, 1);
            z.start();
            z.load(2, 0, 0);
            z.store(1, 0, 2);
            due("the new one by BARRIER " + barrier, z.slot(4, 0), barrier == 0 ? 2 : newOne[barrier]);
        }
    }

    private static void copy() {
        TreadRing x = chain();
        due("copy(3, 0)", x.copy(3, 0), true);
        due("root(3)", x.root(3), 0);
        due("copy(3, NONE)", x.copy(3, -1), true);
        due("root(3)", x.root(3), -1);
        due("copy(0, 0)", x.copy(0, 0), true);
        due("root(0)", x.root(0), 0);
        int acts = x.about(13);
        due("copy(6, 0)", x.copy(6, 0), false);
        due("copy(-1, 0)", x.copy(-1, 0), false);
        due("copy(0, 6)", x.copy(0, 6), false);
        due("copy(0, -2)", x.copy(0, -2), false);
        due("no ACTS", x.about(13), acts);
        x.turn(0, 3);
        x.start();
        x.load(1, 0, 0);
        x.copy(2, 1);
        due("copy() GREYS nothing", x.slot(4, 0), 1);
    }

    private static void weak() {
        TreadRing x = chain();
        x.load(1, 0, 0);
        due("weak(3, 1)", x.weak(3, 1), true);
        due("weakly(3)", x.weakly(3), 4);
        due("weak(0, 5)", x.weak(0, 5), true);
        due("weakly(0)", x.weakly(0), -1);
        due("weak(2, 1)", x.weak(2, 1), true);
        due("weak(2, NONE)", x.weak(2, -1), true);
        due("weakly(2)", x.weakly(2), -1);
        int acts = x.about(13);
        due("weak(4, 0)", x.weak(4, 0), false);
        due("weak(-1, 0)", x.weak(-1, 0), false);
        due("weak(0, 6)", x.weak(0, 6), false);
        due("weak(0, -2)", x.weak(0, -2), false);
        due("no ACTS", x.about(13), acts);
        x.copy(1, -1);
        x.store(0, 0, -1);
        due("by it nothing is REACHED", x.slot(4, 5), 0);
        x.start();
        due("it GREYS nothing", x.slot(4, 0), 1);
        x.work(500);
        due("it is CLEARED", x.weakly(3), -1);
        due("about(15)", x.about(15), 1);
        due("it is not LOST", x.about(5), 0);
    }

    private static void strong() {
        int[] colour = {2, 2, 2, 1};
        for (int barrier = 0; barrier <= 3; barrier++) {
            TreadRing x = chain();
            x.load(1, 0, 0);
            x.weak(1, 1);
            x.copy(1, -1);
            x.turn(0, barrier);
            x.start();
            due("strong(5, 1)", x.strong(5, 1), 4);
            due("root(5)", x.root(5), 4);
            due("its COLOUR by BARRIER " + barrier, x.slot(4, 0), colour[barrier]);
        }
        TreadRing x = chain();
        due("strong(0, 0), none", x.strong(0, 0), -1);
        due("root(0)", x.root(0), -1);
        int acts = x.about(13);
        due("strong(6, 0)", x.strong(6, 0), -2);
        due("strong(-1, 0)", x.strong(-1, 0), -2);
        due("strong(0, 4)", x.strong(0, 4), -2);
        due("strong(0, -1)", x.strong(0, -1), -2);
        due("no ACTS", x.about(13), acts);
    }

    private static void start() {
        TreadRing x = chain();
        x.copy(4, 0);
        due("start()", x.start(), true);
        due("about(1)", x.about(1), 1);
        due("ECRU", x.many(4, 1), 2);
        due("GREY", x.many(4, 2), 1);
        due("BLACK", x.many(4, 3), 0);
        due("ring(4, 0)", x.ring(4, 0), 12);
        due("ring(4, 1)", x.ring(4, 1), 4);
        due("ring(4, 2)", x.ring(4, 2), 8);
        due("ring(4, 3)", x.ring(4, 3), 0);
        due("start() again", x.start(), false);
        TreadRing y = quiet(8);
        y.make(0, 0);
        y.make(1, 0);
        y.copy(0, -1);
        y.copy(1, -1);
        due("start() where ROOTS name none", y.start(), true);
        due("it ENDS at once", y.about(1), 0);
        due("about(2)", y.about(2), 1);
        due("about(7)", y.about(7), 0);
        due("the RING stays", y.ring(2, 6), 0);
        due("the RING stays", y.ring(2, 7), 2);
        TreadRing z = quiet(8);
        z.make(5, 0);
        z.make(0, 0);
        z.make(2, 0);
        z.start();
        due("by the numbers of ROOTS", z.grey(0), 2);
        due("by the numbers of ROOTS", z.grey(1), 4);
        due("by the numbers of ROOTS", z.grey(2), 0);
        due("each ahead of all GREY ones", z.ring(2, 5), 0);
        due("each ahead of all GREY ones", z.ring(2, 6), 4);
        due("each ahead of all GREY ones", z.ring(2, 7), 2);
    }

    private static void work() {
        TreadRing x = chain();
        due("work(1), none RUNS", x.work(1), -1);
        x.start();
        int acts = x.about(13);
        due("work(0)", x.work(0), -1);
        due("work(-1)", x.work(-1), -1);
        due("work(501)", x.work(501), -1);
        due("no ACTS", x.about(13), acts);
        due("work(3)", x.work(3), 3);
        due("0 is BLACK", x.slot(0, 0), 3);
        due("4 is being scanned", x.about(12), 4);
        due("work(500)", x.work(500), 4);
        due("about(1)", x.about(1), 0);
        due("about(3)", x.about(3), 7);
        due("work(1)", x.work(1), -1);
        due("ring(4, 1): BLACK ones ahead of earlier ones", x.ring(4, 1), 8);
        due("ring(4, 2)", x.ring(4, 2), 4);
        due("ring(4, 3)", x.ring(4, 3), 0);

        TreadRing y = chain();
        y.turn(0, 1);
        y.start();
        y.load(1, 0, 0);
        y.store(0, 0, -1);
        due("by BARRIER 1 ROOTS are GREYED once more", y.work(500), 2 + 1 + 2 + 2);
        due("root(1)", y.root(1), 4);
        due("LOST", y.about(5), 0);

        TreadRing z = chain();
        z.turn(0, 3);
        z.start();
        z.load(1, 0, 0);
        z.store(0, 0, -1);
        due("by none they are not", z.work(500), 2 + 1);
        due("root(1)", z.root(1), -1);
        due("LOST", z.about(5), 1);

        for (int root = 0; root < 6; root++) {
            for (int barrier = 1; barrier <= 3; barrier += 2) {
                TreadRing v = quiet(8);
                v.make(0, 1);
                v.make(1, 1);
                v.store(0, 0, 1);
                v.copy(1, -1);
                v.turn(0, barrier);
                v.start();
                v.load(root, 0, 0);
                if (root != 0) {
                    v.store(0, 0, -1);
                }
                due("none is GREY behind the first STEP, by BARRIER " + barrier, v.work(500), root == 0 || barrier == 1 ? 2 : 1);
                due("root(" + root + ")", v.root(root), root == 0 || barrier == 1 ? 2 : -1);
                due("LOST", v.about(5), root == 0 || barrier == 1 ? 0 : 1);
            }
        }
        TreadRing u = quiet(8);
        u.turn(0, 3);
        u.make(1, 1);
        u.make(0, 1);
        u.store(1, 0, 0);
        u.copy(0, -1);
        u.start();
        u.load(0, 1, 0);
        u.store(1, 0, -1);
        due("work(500)", u.work(500), 1);
        due("ROOT 0 is LOST", u.root(0), -1);
        due("about(5)", u.about(5), 1);
        u.undo();
        u.undo();
        u.undo();
        u.undo();
        u.turn(0, 1);
        u.start();
        u.load(0, 1, 0);
        u.store(1, 0, -1);
        u.work(500);
        due("by BARRIER 1 it is not", u.root(0), 2);

        TreadRing w = chain();
        w.turn(0, 3);
        w.load(1, 0, 0);
        w.copy(0, 1);
        w.copy(1, -1);
        w.start();
        w.work(1);
        w.load(2, 0, 0);
        due("4 and 8 are left", w.work(500), 3);
        due("about(7)", w.about(7), 2);
    }

    private static void turn() {
        TreadRing x = new TreadRing();
        due("turn(0, 3)", x.turn(0, 3), 0);
        due("turn(0, 1)", x.turn(0, 1), 3);
        due("turn(1, 3)", x.turn(1, 3), 0);
        due("turn(2, 16)", x.turn(2, 16), 2);
        due("turn(3, 16)", x.turn(3, 16), 2);
        due("turn(3, 0)", x.turn(3, 0), 16);
        due("turn(3, 0), the same", x.turn(3, 0), 0);
        due("ACTS", x.about(13), 7);
        int[][] none = {{-1, 0}, {4, 0}, {0, -1}, {0, 4}, {1, 4}, {1, -1}, {2, 17}, {2, -1}, {3, 17}, {3, -1}};
        for (int[] call : none) {
            due("turn(" + call[0] + ", " + call[1] + ")", x.turn(call[0], call[1]), -1);
        }
        due("ACTS", x.about(13), 7);
        x.make(0, 0);
        x.start();
        due("turn(0, 1) while a CYCLE RUNS", x.turn(0, 1), -1);
        due("turn(1, 0) while a CYCLE RUNS", x.turn(1, 0), 3);
        due("about(8)", x.about(8), 1);
        due("about(9)", x.about(9), 0);
        due("about(10)", x.about(10), 16);
        due("about(11)", x.about(11), 0);
    }

    private static void feed() {
        TreadRing x = new TreadRing();
        // a=b; then blanks: of each number the highest byte is the first.
        due("feed(..)", x.feed(0x613D623B, 0x20202020, 0x20202020, 0x20202020, 0x20202020), 20);
        due("program()", x.program(), 1);
        for (int i = 1; i <= 20; i++) {
            due("feed(..)", x.feed(0, 0, 0, 0, 0), 20 * i);
        }
        due("feed(..), too much", x.feed(0, 0, 0, 0, 0), -1);
        due("about(18)", x.about(18), 400);
        x.cut(381);
        due("feed(..), still", x.feed(0, 0, 0, 0, 0), -1);
        x.cut(380);
        due("feed(..), just so", x.feed(0, 0, 0, 0, 0), 400);
        x.cut(0);
        x.feed(0xFF202020, 0x20202020, 0x20202020, 0x20202020, 0x20202020);
        x.program();
        due("a byte above 127 is no TOKEN", x.fault(0), 1);
        x.feed(0x20202020, 0x20202020, 0x20202020, 0x20202020, 0x20202078);
        x.program();
        due("the last byte of the twenty", x.fault(1), 19);
    }

    private static void cut() {
        TreadRing x = new TreadRing();
        due("cut(0)", x.cut(0), 0);
        due("cut(1)", x.cut(1), -1);
        type(x, "a=b;a=c;");
        due("cut(9)", x.cut(9), -1);
        due("cut(-1)", x.cut(-1), -1);
        due("cut(8)", x.cut(8), 8);
        due("cut(4)", x.cut(4), 4);
        due("about(18)", x.about(18), 4);
        due("program()", x.program(), 1);
        due("no ACT", x.about(13), 0);
    }

    private static void programs() {
        TreadRing x = new TreadRing();
        String[] fine = {"", " \n ", "a=none;", "f . 6 = none ;", "a=new7;b=new 0;", "a=b.007;", "step99;step 1;step 099;",
            "times 9{if a{times 2{if f{}}}}", "a=b;".repeat(40), "times 2{}times 2{}", "a.0=b;\nc=d.6;"};
        int[] items = {0, 0, 1, 1, 2, -1, 3, 4, 40, 2, 2};
        for (int i = 0; i < fine.length; i++) {
            due("program() of " + fine[i], program(x, fine[i]), items[i]);
            due("the TAPE is empty", x.about(18), 0);
        }
        due("about(17)", x.about(17), 2);
        due("program() of a FAULT", program(x, "a=b;x"), -1);
        due("the TAPE is empty", x.about(18), 0);
        due("the PROGRAM stays", x.about(17), 2);
        due("program() of nothing", x.program(), 0);
        due("about(17)", x.about(17), 0);
        due("no ACT", x.about(13), 0);
    }

    private static void fault(TreadRing x, String text, int kind, int place) {
        program(x, text);
        due("fault(0) of " + text, x.fault(0), kind);
        due("fault(1) of " + text, x.fault(1), place);
    }

    private static void faults() {
        TreadRing x = new TreadRing();
        due("fault(0) ahead of any", x.fault(0), 0);
        due("fault(1) ahead of any", x.fault(1), -1);
        fault(x, "a=b;", 0, -1);
        fault(x, "a=b", 1, 3);
        fault(x, "a=b  ", 1, 5);
        fault(x, "g=b;", 1, 0);
        fault(x, "a=g;", 1, 2);
        fault(x, "ab=c;", 1, 0);
        fault(x, "az=c;", 1, 0);
        fault(x, "a9=c;", 1, 1);
        fault(x, "a=b c;", 1, 4);
        fault(x, "A=b;", 1, 0);
        fault(x, "\ta=b;", 1, 0);
        fault(x, "a=b;}", 1, 4);
        fault(x, "if a{", 1, 5);
        fault(x, "if a{a=b;", 1, 9);
        fault(x, "if a a=b;", 1, 5);
        fault(x, "if none{}", 1, 3);
        fault(x, "times a{}", 1, 6);
        fault(x, "times 2 }", 1, 8);
        fault(x, "timesa 2{}", 1, 0);
        fault(x, "a=none.0;", 1, 6);
        fault(x, "a=new;", 1, 5);
        fault(x, "a=new b;", 1, 6);
        fault(x, "a=3;", 1, 2);
        fault(x, "a=12345;", 1, 2);
        fault(x, "a.0;", 1, 3);
        fault(x, "a.0=new 1;", 1, 4);
        fault(x, "a.0=b.0;", 1, 5);
        fault(x, "new 2;", 1, 0);
        fault(x, ";", 1, 0);
        fault(x, "a=new 8;", 2, 6);
        fault(x, "a=new 0007;", 2, 6);
        fault(x, "a=new 8", 2, 6);
        fault(x, "a=b.7;", 2, 4);
        fault(x, "a.7=b;", 2, 2);
        fault(x, "step 0;", 2, 5);
        fault(x, "step 100;", 2, 5);
        fault(x, "step 99999999999;", 2, 5);
        fault(x, "step;", 1, 4);
        fault(x, "times 1{}", 2, 6);
        fault(x, "times 10{}", 2, 6);
        fault(x, "a=b;".repeat(40) + "a=b;", 3, 160);
        fault(x, "a=b;".repeat(40) + " x", 1, 161);
        fault(x, "a=b;".repeat(40) + "times 1{}", 3, 160);
        fault(x, "a=b;".repeat(39) + "if a{b=c;}", 3, 161);
        fault(x, "if a{if b{if c{if d{}}}}", 0, -1);
        fault(x, "if a{if b{if c{if d{a=b;}}}}", 3, 20);
        fault(x, "if a{if b{if c{if d{if e{}}}}}", 3, 20);
        fault(x, "if a{if b{if c{if d{;}}}}", 1, 20);
        fault(x, "a=b;x step 0;", 1, 4);
        fault(x, "step 0; x", 2, 5);
        due("fault(2)", x.fault(2), -1);
        due("fault(-1)", x.fault(-1), -1);
        fault(x, "", 0, -1);
    }

    private static void run() {
        TreadRing x = quiet(8);
        due("run() without ITEMS", x.run(), -1);
        due("no ACT", x.about(13), 2);
        program(x, "times 2{}");
        due("run() of no GOES", x.run(), 0);
        due("an ACT", x.about(13), 3);
        program(x, "a=new 2;b=new 1;a.0=b;b.0=a;c=a.0;d=none;if d{e=a;}if c{f=c;}step 3;d=c.1;e=a;");
        due("run()", x.run(), 8);
        due("root(2)", x.root(2), 16);
        due("root(5)", x.root(5), 16);
        due("root(4): it stopped ahead of a FIELD that is not there", x.root(4), -1);
        due("field(0, 0)", x.field(0, 0), 16);
        due("one ACT", x.about(13), 4);
        program(x, "d.0=a;e=a;");
        due("it stops ahead of a ROOT that names none", x.run(), 0);
        program(x, "times 9{times 9{times 9{d=a;d=none;}}}e=a;");
        due("it stops behind 300 GOES", x.run(), 300);
        due("root(4)", x.root(4), -1);
        program(x, "times 9{a=new 7;times 4{b=a;}}");
        due("it stops never, here", x.run(), 45);
        TreadRing y = quiet(1);
        program(y, "a=new 7;b=new 7;c=new 7;d=a;");
        due("it stops behind one by which nothing could be MADE", y.run(), 3);
        due("root(3)", y.root(3), -1);
        due("FORCED", y.about(4), 14);
        TreadRing z = quiet(8);
        z.make(0, 7);
        z.start();
        program(z, "step 5;step 5;step 5;");
        due("step counts always", z.run(), 3);
        due("STEPS", z.about(3), 7);
        program(z, "times 3{times 2{b=a;}c=a;}if c{if b{d=a;}}");
        due("one in another", z.run(), 10);
        TreadRing w = quiet(8);
        program(w, "times 3{if a{b=a;}a=new 0;}");
        due("if is asked each time", w.run(), 5);
        program(w, "b.0=a;");
        due("a FIELD that is not there", w.run(), 0);
    }

    private static void runBy() {
        TreadRing x = quiet(8);
        due("runBy(0, 0) without ITEMS", x.runBy(0, 0), -1);
        program(x, "a=new 1;b=new 1;a.0=b;b=none;c=a;");
        int[] due = {5, 0, 0, 0, 0, 2, 2};
        for (int barrier = 0; barrier <= 3; barrier++) {
            for (int what = 0; what <= 6; what++) {
                due("runBy(" + barrier + ", " + what + ")", x.runBy(barrier, what), due[what]);
            }
        }
        due("runBy(-1, 0)", x.runBy(-1, 0), -1);
        due("runBy(4, 0)", x.runBy(4, 0), -1);
        due("runBy(0, -1)", x.runBy(0, -1), -1);
        due("runBy(0, 7)", x.runBy(0, 7), -1);
        due("nothing is done", x.about(7), 0);
        due("nothing is done", x.about(13), 2);
        due("nothing is done", x.about(8), 0);

        program(x, "a=new 1;b=new 1;b=none;b=new 2;b=a;");
        due("OBJECTS", x.runBy(0, 5), 3);
        due("REACHED ones", x.runBy(0, 6), 1);

        // The CYCLE starts at the fourth OBJECT; what is hidden from it then is LOST by none.
        TreadRing y = quiet(1);
        y.turn(3, 1);
        y.turn(2, 0);
        program(y, "a=new 2;b=new 2;a.0=b;b=none;c=new 2;c=new 2;d=a.0;a.0=none;step 99;");
        int[] lost = {0, 0, 0, 1};
        int[] steps = {6, 6, 6, 4};
        int[] objects = {3, 3, 3, 2};
        for (int barrier = 0; barrier <= 3; barrier++) {
            due("GOES by " + barrier, y.runBy(barrier, 0), 9);
            due("STEPS by " + barrier, y.runBy(barrier, 1), steps[barrier]);
            due("LOST by " + barrier, y.runBy(barrier, 2), lost[barrier]);
            due("CYCLES by " + barrier, y.runBy(barrier, 4), 1);
            due("OBJECTS by " + barrier, y.runBy(barrier, 5), objects[barrier]);
            due("REACHED by " + barrier, y.runBy(barrier, 6), objects[barrier]);
        }
        y.make(0, 0);
        y.start();
        due("the CYCLE that RUNS does not count", y.runBy(3, 4), 1);
        program(y, "a=none;");
        due("(no STEPS)", y.runBy(0, 1), 0);
        due("(no CYCLES)", y.runBy(0, 4), 0);
        due("it RUNS still", y.about(1), 1);
        TreadRing z = quiet(1);
        program(z, "a=new 7;b=new 7;c=new 7;");
        due("FORCED", z.runBy(0, 3), 14);
    }

    private static void cheapest() {
        TreadRing x = quiet(1);
        due("cheapest(0) without ITEMS", x.cheapest(0), -1);
        x.turn(3, 1);
        // 4 comes to be garbage while the CYCLE RUNS: by 0 and 2 it is scanned all the same.
        program(x, "a=new 2;b=new 2;a.0=b;b=none;c=new 2;c=none;c=new 2;d=a.0;d=none;a.0=none;step 99;");
        due("STEPS by 0", x.runBy(0, 1), 6);
        due("STEPS by 1", x.runBy(1, 1), 4);
        due("STEPS by 2", x.runBy(2, 1), 6);
        due("cheapest(0)", x.cheapest(0), 1);
        due("cheapest(1)", x.cheapest(1), 4);
        due("cheapest(2)", x.cheapest(2), -1);
        due("cheapest(-1)", x.cheapest(-1), -1);
        // By 3 it would be fewer.
        program(x, "a=new 2;b=new 2;a.0=b;b=none;c=new 2;c=new 2;d=a.0;a.0=none;step 99;");
        due("STEPS by 3", x.runBy(3, 1), 4);
        due("cheapest(0), of like ones the least", x.cheapest(0), 0);
        due("cheapest(1)", x.cheapest(1), 6);
        due("nothing is done", x.about(7), 0);
        // By 0 and 1 the CYCLE ENDS at the first two STEPS, and another one STARTS; by 2 it has one more to go.
        TreadRing y = quiet(8);
        y.turn(3, 6);
        program(y, "d=new 1;c=new 1;c.0=d;d=new 1;c.0=none;step 2;a=new 1;step 2;");
        due("STEPS by 0", y.runBy(0, 1), 4);
        due("STEPS by 1", y.runBy(1, 1), 4);
        due("cheapest(0), the last", y.cheapest(0), 2);
        due("cheapest(1)", y.cheapest(1), 3);
    }

    private static void suits() {
        TreadRing x = quiet(1);
        due("suits() without ITEMS", x.suits(), -1);
        program(x, "a=new 7;b=new 7;");
        due("suits(), none needed", x.suits(), 0);
        program(x, "a=new 7;b=new 7;c=new 7;");
        due("suits(), by none", x.suits(), -1);
        // At the fourth one a CYCLE STARTS: it has 9 STEPS, and the second one is garbage; the fifth one needs it.
        x.turn(3, 1);
        program(x, "a=new 3;b=new 3;b=none;c=new 3;d=new 3;e=new 3;");
        due("suits(), in time", x.suits(), 9);
        due("by PACE 8 one is FORCED", x.turn(2, 8) == 0 && x.runBy(0, 3) == 1, true);
        x.undo();
        due("about(10) stays", x.about(10), 0);
        TreadRing y = quiet(2);
        y.turn(3, 1);
        program(y, "a=new 3;b=new 3;c=new 3;d=new 7;d=new 7;e=new 7;");
        due("suits(), by 16 STEPS", y.suits(), 16);
        y.open(3);
        y.turn(3, 1);
        program(y, "a=new 3;b=new 3;c=new 3;f=new 0;d=new 7;d=new 7;e=new 7;");
        due("suits(), by 17 STEPS", y.suits(), -1);
    }

    private static void undo() {
        TreadRing x = new TreadRing();
        due("undo() of nothing", x.undo(), false);
        x.make(0, 1);
        x.store(0, 0, 0);
        x.copy(1, 0);
        x.weak(0, 0);
        x.strong(2, 0);
        x.load(3, 0, 0);
        x.turn(2, 5);
        x.start();
        x.work(1);
        program(x, "a=none;");
        x.run();
        due("ACTS", x.about(13), 10);
        x.copy(9, 9);
        x.make(9, 9);
        due("what is refused is none", x.about(13), 10);
        x.undo();
        due("run() taken back", x.root(0), 0);
        due("the PROGRAM stays", x.about(17), 1);
        x.undo();
        due("work() taken back", x.about(3), 0);
        due("work() taken back", x.about(2), 0);
        due("work() taken back", x.about(16), 0);
        x.undo();
        due("start() taken back", x.about(1), 0);
        x.undo();
        due("turn() taken back", x.about(10), 2);
        x.undo();
        due("load() taken back", x.root(3), -1);
        x.undo();
        due("strong() taken back", x.root(2), -1);
        x.undo();
        due("weak() taken back", x.weakly(0), -1);
        x.undo();
        due("copy() taken back", x.root(1), -1);
        x.undo();
        due("store() taken back", x.field(0, 0), -1);
        due("undo(), the last", x.undo(), true);
        due("make() taken back", x.about(7), 0);
        due("make() taken back", x.page(0, 0), 0);
        due("make() taken back", x.about(6), 0);
        due("undo() of no more", x.undo(), false);
        due("done again", x.about(14), 10);

        TreadRing y = new TreadRing();
        for (int i = 0; i < 25; i++) {
            y.make(0, 0);
        }
        due("20 are kept", y.about(13), 20);
        int undone = 0;
        while (undone < 30 && y.undo()) {
            undone++;
        }
        due("20 are taken back", undone, 20);
        due("5 are left", y.about(6), 5);
    }

    private static void redo() {
        TreadRing x = new TreadRing();
        due("redo() of nothing", x.redo(), false);
        x.make(0, 0);
        x.make(1, 3);
        x.copy(2, 1);
        x.undo();
        x.undo();
        due("redo()", x.redo(), true);
        due("root(1)", x.root(1), 16);
        due("about(13)", x.about(13), 2);
        due("about(14)", x.about(14), 1);
        due("redo()", x.redo(), true);
        due("root(2)", x.root(2), 16);
        due("redo()", x.redo(), false);
        x.undo();
        x.copy(9, 0);
        due("what is refused leaves it", x.about(14), 1);
        x.copy(3, 0);
        due("another ACT ends it", x.about(14), 0);
        due("redo()", x.redo(), false);
        TreadRing y = new TreadRing();
        for (int i = 0; i < 30; i++) {
            y.make(i % 6, 0);
        }
        for (int i = 0; i < 20; i++) {
            y.undo();
        }
        due("20 can be done again", y.about(14), 20);
        for (int i = 0; i < 20; i++) {
            due("redo()", y.redo(), true);
        }
        due("redo()", y.redo(), false);
        due("about(6)", y.about(6), 30);
    }

    private static void names() {
        promise = 22;
        TreadRing x = chain();
        due("root(0)", x.root(0), 0);
        due("root(5)", x.root(5), -1);
        due("root(6)", x.root(6), -2);
        due("root(-1)", x.root(-1), -2);
        promise = 23;
        x.weak(3, 0);
        due("weakly(3)", x.weakly(3), 0);
        due("weakly(0)", x.weakly(0), -1);
        due("weakly(4)", x.weakly(4), -2);
        due("weakly(-1)", x.weakly(-1), -2);
    }

    private static void told() {
        TreadRing x = chain();
        due("told(0, 0)", x.told(0, 0), -1);
        x.make(5, 0);
        x.copy(5, -1);
        x.start();
        x.work(2);
        due("while it RUNS", x.told(0, 0), -1);
        x.work(500);
        due("told(0, 0)", x.told(0, 0), 7);
        due("told(0, 1)", x.told(0, 1), 1);
        due("told(0, 2)", x.told(0, 2), 4);
        due("told(0, 3)", x.told(0, 3), -1);
        due("told(0, -1)", x.told(0, -1), -1);
        due("told(1, 0)", x.told(1, 0), -1);
        due("told(-1, 0)", x.told(-1, 0), -1);
        x.copy(0, -1);
        x.start();
        due("told(0, 0)", x.told(0, 0), 0);
        due("told(0, 1)", x.told(0, 1), 4);
        due("told(0, 2)", x.told(0, 2), 0);
        due("told(1, 0)", x.told(1, 0), 7);
        for (int i = 0; i < 14; i++) {
            x.start();
        }
        due("about(16)", x.about(16), 16);
        due("told(15, 0)", x.told(15, 0), 7);
        due("told(16, 0)", x.told(16, 0), -1);
        x.start();
        due("about(16)", x.about(16), 16);
        due("about(2)", x.about(2), 17);
        due("the oldest goes", x.told(15, 1), 4);
    }

    private static void boxes() {
        promise = 25;
        TreadRing x = chain();
        x.start();
        x.work(1);
        due("image(-1)", x.image(-1), -1);
        due("image(2)", x.image(2), -1);
        int acts = x.about(13);
        due("image(1)", x.image(1), 4);
        due("no ACT", x.about(13), acts);
        promise = 26;
        due("back(0), nothing kept", x.back(0), -1);
        due("back(-1)", x.back(-1), -1);
        due("back(2)", x.back(2), -1);
        due("ACTS stay", x.about(13), acts);
        x.work(500);
        x.turn(0, 3);
        x.copy(0, -1);
        x.start();
        program(x, "a=b;");
        type(x, "ab");
        due("back(1)", x.back(1), 4);
        due("about(1)", x.about(1), 1);
        due("about(3)", x.about(3), 1);
        due("about(8)", x.about(8), 0);
        due("about(12)", x.about(12), 0);
        due("slot(0, 4)", x.slot(0, 4), 1);
        due("root(0)", x.root(0), 0);
        due("the PROGRAM stays", x.about(17), 1);
        due("the TAPE stays", x.about(18), 2);
        due("nothing to be taken back", x.undo(), false);
        x.copy(0, -1);
        x.undo();
        due("nothing to be done again", x.back(1) == 4 && !x.redo(), true);
        x.open(2);
        due("back(1) behind open()", x.back(1), 4);
        due("about(0)", x.about(0), 8);
        due("image(0)", x.image(0), 4);
        x.open(2);
        due("image(1)", x.image(1), 0);
        due("back(0)", x.back(0), 4);
        due("back(1)", x.back(1), 0);
    }

    private static void looks() {
        promise = 27;
        TreadRing x = chain();
        due("field(0, 0)", x.field(0, 0), 4);
        due("field(4, 1)", x.field(4, 1), -1);
        int[][] none = {{0, 2}, {0, -1}, {2, 0}, {12, 0}, {16, 0}, {1, 0}, {-1, 0}, {128, 0}, {64, 0}, {-2, 0}};
        for (int[] call : none) {
            due("field(" + call[0] + ", " + call[1] + ")", x.field(call[0], call[1]), -2);
        }
        promise = 28;
        int[] four = {3, 4, 2, 1, 0, 1};
        int[] free = {0, 4, 0, 0, 0, 0};
        for (int what = 0; what < 6; what++) {
            due("slot(4, " + what + ")", x.slot(4, what), four[what]);
            due("slot(12, " + what + ")", x.slot(12, what), free[what]);
        }
        due("slot(16, 1)", x.slot(16, 1), 2);
        int[][] no = {{4, 6}, {4, -1}, {2, 0}, {1, 0}, {-1, 0}, {128, 0}, {32, 0}, {Integer.MIN_VALUE, 0}};
        for (int[] call : no) {
            due("slot(" + call[0] + ", " + call[1] + ")", x.slot(call[0], call[1]), -1);
        }
        x.start();
        due("slot(0, 4), not taken yet", x.slot(0, 4), 0);
        x.work(1);
        due("slot(0, 4)", x.slot(0, 4), 1);
        due("slot(4, 4)", x.slot(4, 4), 0);
        x.store(0, 0, -1);
        due("slot(4, 5)", x.slot(4, 5), 0);
        due("slot(0, 3)", x.slot(0, 3), 1);
        promise = 31;
        due("page(0, 0)", x.page(0, 0), 4);
        due("page(0, 1)", x.page(0, 1), 1);
        due("page(0, 2)", x.page(0, 2), 3);
        due("page(1, 1)", x.page(1, 1), 7);
        due("page(2, 0)", x.page(2, 0), 0);
        due("page(2, 1)", x.page(2, 1), 0);
        due("page(2, 2)", x.page(2, 2), 0);
        due("page(8, 0)", x.page(8, 0), -1);
        due("page(-1, 0)", x.page(-1, 0), -1);
        due("page(0, 3)", x.page(0, 3), -1);
        due("page(0, -1)", x.page(0, -1), -1);
        x.open(3);
        due("page(3, 0)", x.page(3, 0), -1);
    }

    private static void rings() {
        promise = 29;
        TreadRing x = chain();
        int[] four = {12, 0, 4, 8, -1};
        for (int i = 0; i < 5; i++) {
            due("ring(4, " + i + ")", x.ring(4, i), four[i]);
        }
        due("ring(2, 0)", x.ring(2, 0), 18);
        due("ring(2, 7)", x.ring(2, 7), 16);
        due("ring(8, 0)", x.ring(8, 0), -1);
        due("ring(3, 0)", x.ring(3, 0), -1);
        due("ring(0, 0)", x.ring(0, 0), -1);
        due("ring(16, 0)", x.ring(16, 0), -1);
        due("ring(4, -1)", x.ring(4, -1), -1);
        due("ring(4, far)", x.ring(4, Integer.MAX_VALUE), -1);
        promise = 30;
        due("many(4, 0)", x.many(4, 0), 1);
        due("many(4, 3)", x.many(4, 3), 3);
        due("many(2, 0)", x.many(2, 0), 7);
        due("many(8, 0)", x.many(8, 0), 0);
        due("many(6, 0)", x.many(6, 0), -1);
        due("many(4, 4)", x.many(4, 4), -1);
        due("many(4, -1)", x.many(4, -1), -1);
        x.start();
        x.work(2);
        due("many(4, 1)", x.many(4, 1), 1);
        due("many(4, 2)", x.many(4, 2), 1);
        due("many(4, 3)", x.many(4, 3), 1);
        due("many(2, 2)", x.many(2, 2), 1);
        promise = 29;
        int[] now = {12, 8, 4, 0, -1};
        for (int i = 0; i < 5; i++) {
            due("ring(4, " + i + ")", x.ring(4, i), now[i]);
        }
        x.make(5, 2);
        due("the new one is last", x.ring(4, 3), 12);
        x.make(5, 2);
        due("a new PAGE's stand first: the first was taken", x.ring(4, 0), 36);
        due("a new PAGE's, by their ADDRESSES", x.ring(4, 2), 44);
        due("then ECRU ones", x.ring(4, 3), 8);
        due("last of all", x.ring(4, 7), 32);
    }

    private static void grey() {
        // ROOTS 0 .. 3 name 0 (of 8 cells), 16 (of 2), 32 (of 4), 18 (of 2); each is GREYED in this order.
        int[][] due = {{0, 16, 32, 18, -1}, {18, 32, 16, 0, -1}, {16, 18, 32, 0, -1}, {0, 16, 18, 32, -1}};
        for (int order = 0; order <= 3; order++) {
            TreadRing x = quiet(8);
            x.make(0, 4);
            x.make(1, 1);
            x.make(2, 2);
            x.make(3, 1);
            due("grey(0), none RUNS", x.grey(0), -1);
            x.turn(1, order);
            x.start();
            for (int i = 0; i < 5; i++) {
                due("grey(" + i + ") by ORDER " + order, x.grey(i), due[order][i]);
            }
            due("grey(-1)", x.grey(-1), -1);
            due("grey(least)", x.grey(Integer.MIN_VALUE), -1);
            int taken = 0;
            while (x.about(1) == 1 && taken < 4) {
                int next = x.grey(0);
                due("the one that is taken by ORDER " + order, next, due[order][taken]);
                x.work(Math.max(1, x.slot(next, 2)));
                due("it is BLACK, or FREE never", x.slot(next, 0), 3);
                taken++;
            }
            due("all were taken", taken, 4);
        }
        TreadRing y = chain();
        y.start();
        y.work(1);
        y.turn(1, 1);
        due("the one being scanned first", y.grey(0), 0);
        due("then the others", y.grey(1), 4);
        due("no more", y.grey(2), -1);
    }

    private static void reach() {
        promise = 33;
        TreadRing x = chain();
        due("live(0)", x.live(0), 4);
        due("live(1)", x.live(1), 14);
        due("live(2)", x.live(2), 0);
        due("live(4)", x.live(4), -1);
        due("live(-1)", x.live(-1), -1);
        x.start();
        x.work(1);
        x.load(1, 0, 0);
        x.copy(0, -1);
        due("live(0)", x.live(0), 2);
        due("live(1)", x.live(1), 8);
        due("live(2)", x.live(2), 2);
        due("live(3): 0 is GREY, 16 is ECRU", x.live(3), 1);
        x.make(5, 0);
        x.make(5, 0);
        x.copy(5, -1);
        due("live(3): two new ones are BLACK", x.live(3), 3);
        x.undo();
        x.undo();
        x.undo();
        x.work(500);
        due("live(2)", x.live(2), 2);
        due("live(3), none RUNS", x.live(3), 0);
        promise = 34;
        x = chain();
        due("path(0, 0)", x.path(0, 0), 0);
        due("path(0, 4)", x.path(0, 4), 1);
        due("path(0, 8)", x.path(0, 8), 2);
        due("path(0, 16)", x.path(0, 16), 1);
        due("path(1, 0)", x.path(1, 0), -1);
        due("path(6, 0)", x.path(6, 0), -1);
        due("path(-1, 0)", x.path(-1, 0), -1);
        due("path(0, 12)", x.path(0, 12), -1);
        due("path(0, 2)", x.path(0, 2), -1);
        due("path(0, -1)", x.path(0, -1), -1);
        due("path(0, 128)", x.path(0, 128), -1);
        x.load(1, 0, 0);
        due("path(0, 8), by that ROOT alone", x.path(0, 8), 2);
        due("path(1, 16)", x.path(1, 16), -1);
        due("path(1, 8)", x.path(1, 8), 1);
        x.load(2, 1, 0);
        x.store(0, 1, 2);
        due("the fewest", x.path(0, 8), 1);
        promise = 35;
        x = chain();
        due("retained(0)", x.retained(0), 4);
        due("retained(4)", x.retained(4), 2);
        due("retained(8)", x.retained(8), 1);
        due("retained(12)", x.retained(12), -1);
        due("retained(2)", x.retained(2), -1);
        due("retained(-1)", x.retained(-1), -1);
        due("retained(128)", x.retained(128), -1);
        x.load(1, 0, 0);
        due("by another ROOT it is REACHED still", x.retained(0), 2);
        x.load(2, 1, 0);
        x.store(2, 1, 1);
        due("round in a circle", x.retained(8), 1);
        x.copy(0, -1);
        due("not REACHED", x.retained(0), -1);
    }

    private static void ends() {
        TreadRing x = chain();
        x.make(5, 7);
        x.copy(5, -1);
        int[] due = {7, 1, 8, 0};
        for (int what = 0; what < 4; what++) {
            due("end(" + what + ")", x.end(what), due[what]);
        }
        due("end(4)", x.end(4), -1);
        due("end(-1)", x.end(-1), -1);
        due("nothing is done", x.about(2), 0);
        x.start();
        x.work(3);
        due("end(0), from now on", x.end(0), 4);
        due("end(1)", x.end(1), 1);
        x.work(4);
        due("end(0), STARTED anew", x.end(0), 7);
        due("end(1)", x.end(1), 0);
        x.turn(0, 3);
        x.start();
        x.load(1, 0, 0);
        x.load(2, 0, 0);
        x.store(0, 0, -1);
        due("end(3)", x.end(3), 2);
        due("end(2)", x.end(2), 8);
        x.copy(0, -1);
        due("about(5)", x.about(5), 0);
    }

    private static void rooms() {
        promise = 37;
        TreadRing x = quiet(1);
        due("room(0, 0)", x.room(0, 0), 8);
        due("room(0, 1)", x.room(0, 1), 64);
        due("room(3, 0)", x.room(3, 0), 4);
        due("room(7, 0)", x.room(7, 0), 2);
        due("room(8, 0)", x.room(8, 0), -1);
        due("room(-1, 0)", x.room(-1, 0), -1);
        due("room(0, 2)", x.room(0, 2), -1);
        due("room(0, -1)", x.room(0, -1), -1);
        x.make(0, 7);
        x.make(1, 7);
        due("room(7, 1)", x.room(7, 1), 0);
        x.copy(0, -1);
        x.copy(1, -1);
        due("a CYCLE without STEPS is no force", x.room(7, 0), 2);
        due("nothing is done", x.about(7), 2);
        TreadRing y = quiet(1);
        y.make(1, 7);
        due("one beside it", y.room(4, 0), 1);
        due("one beside it, again and again", y.room(4, 1), 1);
        y.copy(0, -1);
        due("one PAGE alone", y.room(0, 1), 0);
        promise = 38;
        TreadRing z = quiet(1);
        due("pace(0, 8)", z.pace(0, 8), 0);
        due("pace(0, 9), no CYCLE STARTS", z.pace(0, 9), -1);
        due("pace(0, 0)", z.pace(0, 0), -1);
        due("pace(0, 65)", z.pace(0, 65), -1);
        due("pace(8, 1)", z.pace(8, 1), -1);
        due("pace(-1, 1)", z.pace(-1, 1), -1);
        z.turn(3, 1);
        // The CYCLE STARTS at the eighth; its one STEP leaves that alone.
        due("pace(0, 9)", z.pace(0, 9), 1);
        due("pace(0, 64)", z.pace(0, 64), 1);
        TreadRing w = quiet(2);
        w.turn(3, 1);
        program(w, "a=new 3;b=new 3;c=new 3;d=new 7;d=new 7;");
        w.run();
        due("pace(7, 1), by 16 STEPS", w.pace(7, 1), 16);
        due("pace(0, 1), no PAGE", w.pace(0, 1), -1);
        w.open(3);
        w.turn(3, 1);
        program(w, "a=new 3;b=new 3;c=new 3;f=new 0;d=new 7;d=new 7;");
        due("by no PACE", w.turn(2, 0) == 2 && w.run() == 6 && w.about(3) == 0, true);
        due("pace(7, 1), by 17 STEPS", w.pace(7, 1), -1);
        due("pace(7, 3): seven FIELDS ahead of the third", z.pace(7, 3), 7);
        due("about(10)", z.about(10), 0);
    }

    private static void game() {
        TreadRing x = new TreadRing();
        due("game(-1, 0, 1, 0)", x.game(-1, 0, 1, 0), -1);
        due("game(4, 0, 1, 0)", x.game(4, 0, 1, 0), -1);
        due("game(0, -1, 1, 0)", x.game(0, -1, 1, 0), -1);
        due("game(0, 10000, 1, 0)", x.game(0, 10000, 1, 0), -1);
        due("game(0, 0, 0, 0)", x.game(0, 0, 0, 0), -1);
        due("game(0, 0, 201, 0)", x.game(0, 0, 201, 0), -1);
        due("game(0, 0, 1, 6)", x.game(0, 0, 1, 6), -1);
        due("game(0, 0, 1, -1)", x.game(0, 0, 1, -1), -1);
        int seed = 9_999;
        int barrier = 2;
        // The same goes by the calls themselves.
        TreadRing y = quiet(2);
        y.turn(0, barrier);
        y.turn(3, 3);
        y.turn(2, 1);
        int[] due = new int[6];
        for (int what = 0; what < 6; what++) {
            due[what] = y.game(barrier, seed, 200, what);
        }
        int draw = seed;
        for (int i = 0; i < 200; i++) {
            int[] drawn = new int[4];
            for (int k = 0; k < 4; k++) {
                draw = (137 * draw + 71) % 10_007;
                drawn[k] = draw % (k == 0 ? 8 : 6);
            }
            switch (drawn[0]) {
                case 0: case 1: case 2: y.make(drawn[1], drawn[3]); break;
                case 3: y.load(drawn[1], drawn[2], drawn[3]); break;
                case 4: case 5: y.store(drawn[1], drawn[3], drawn[2]); break;
                case 6: y.copy(drawn[1], drawn[2]); break;
                default: y.copy(drawn[1], -1); break;
            }
        }
        int[] about = {3, 5, 4, 2, 6, 7};
        for (int what = 0; what < 6; what++) {
            due("game(.., " + what + ")", due[what], y.about(about[what]));
        }
        due("CYCLES ENDED in it", due[3] > 0, true);
        TreadRing z = chain();
        z.start();
        due("the CYCLE that RUNS does not count", z.game(0, 0, 1, 0), 0);
        due("the CYCLE that RUNS does not count", z.game(0, 0, 1, 3), 0);
        due("it RUNS still", z.about(1), 1);
        due("OBJECTS at its end", z.game(0, 0, 1, 5), 4);
        due("none MADE by these goes", z.game(0, 0, 1, 4), 0);
    }

    private static void law() {
        TreadRing x = chain();
        x.turn(0, 3);
        x.start();
        x.load(1, 0, 0);
        due("law(0)", x.law(0), 0);
        x.make(2, 2);
        x.store(2, 0, 1);
        x.store(2, 1, 1);
        due("law(0), one OBJECT", x.law(0), 1);
        x.store(2, 0, -1);
        due("by its last FIELD", x.law(0), 1);
        x.store(2, 1, -1);
        due("by none", x.law(0), 0);
        x.store(2, 0, 1);
        due("by its first FIELD", x.law(0), 1);
        x.make(3, 1);
        x.store(3, 0, 1);
        due("another one", x.law(0), 2);
        x.store(3, 0, -1);
        x.store(2, 1, 1);
        due("law(1)", x.law(1), 0);
        due("law(2)", x.law(2), -1);
        due("law(-1)", x.law(-1), -1);
        x.store(0, 0, -1);
        x.work(500);
        due("LOST: two FIELDS and a ROOT", x.about(5), 3);
        due("law(0)", x.law(0), 0);
        due("law(1)", x.law(1), 0);
    }

    private static void about() {
        TreadRing x = quiet(5);
        x.turn(0, 2);
        x.turn(1, 1);
        x.make(0, 2);
        x.make(1, 0);
        x.weak(0, 1);
        x.copy(1, -1);
        x.start();
        x.work(1);
        x.undo();
        x.redo();
        x.copy(4, 4);
        x.undo();
        program(x, "a=b;");
        type(x, "xyz");
        int[] now = {5, 1, 0, 1, 0, 0, 2, 2, 2, 1, 0, 0, 0, 10, 1, 0, 0, 1, 3};
        for (int what = 0; what < now.length; what++) {
            due("about(" + what + ")", x.about(what), now[what]);
        }
        x.work(500);
        int[] then = {5, 0, 1, 2, 0, 0, 2, 1, 2, 1, 0, 0, -1, 11, 0, 1, 1, 1, 3};
        for (int what = 0; what < then.length; what++) {
            due("about(" + what + ")", x.about(what), then[what]);
        }
        due("about(19)", x.about(19), -2);
        due("about(-1)", x.about(-1), -2);
    }

    private static void first() {
        promise = 1;
        fresh();
        promise = 2;
        open();
        promise = 3;
        make();
        promise = 4;
        load();
        promise = 5;
        store();
        promise = 6;
        copy();
        promise = 7;
        weak();
        promise = 8;
        strong();
        promise = 9;
        start();
        promise = 10;
        work();
        promise = 11;
        turn();
        promise = 12;
        feed();
        promise = 13;
        cut();
        promise = 14;
        programs();
        promise = 15;
        faults();
        promise = 16;
        run();
        promise = 17;
        runBy();
        promise = 18;
        cheapest();
        promise = 19;
        suits();
        promise = 20;
        undo();
        promise = 21;
        redo();
    }

    private static void second() {
        names();
        promise = 24;
        told();
        boxes();
        looks();
        rings();
        promise = 32;
        grey();
        reach();
        promise = 36;
        ends();
        rooms();
        promise = 39;
        game();
        promise = 40;
        law();
        promise = 41;
        about();
    }

    public static void main(String[] args) {
        first();
        second();
        tell();
    }
}
