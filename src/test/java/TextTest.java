/** The document's Terms, part 4, sentence by sentence: PROGRAMS, their FAULTS, how they are RUN. */
public final class TextTest extends Asked {

    private static void fine(String text, int items) {
        TreadRing x = new TreadRing();
        due("program() of " + text, program(x, text), items);
        due("fault(0) of " + text, x.fault(0), 0);
        due("fault(1) of " + text, x.fault(1), NONE);
    }

    private static void fault(String text, int kind, int place) {
        TreadRing x = new TreadRing();
        due("program() of " + text, program(x, text), NONE);
        due("fault(0) of " + text, x.fault(0), kind);
        due("fault(1) of " + text, x.fault(1), place);
    }

    /** GOES, on a HEAP on which nothing starts or steps by itself. */
    private static TreadRing ran(int pages, String text, int goes) {
        TreadRing x = quiet(pages);
        program(x, text);
        due("run() of " + text, x.run(), goes);
        return x;
    }

    // ---- ITEMS

    private static void texts() {
        says(0, "A PROGRAM is a text of at most 400 bytes: {ITEM}.");
        fine("", 0);
        fine(" ", 0);
        fine("a=b;", 1);
        fine("a=b;a=b;", 2);
        fine("a=b;".repeat(40) + " ".repeat(240), 40);
        fine(" ".repeat(396) + "a=b;", 1);
        fault(" ".repeat(396) + "a=b=", 1, 399);
        fault(" ".repeat(399) + "a", 1, 400);
        TreadRing x = new TreadRing();
        type(x, " ".repeat(400));
        due("no more than 400", x.feed(0x613D623B, 0, 0, 0, 0), NONE);

        says(0, "ITEM: R = new N ; (an OBJECT of N FIELDS, 0 .. 7, is made for R)");
        for (int n = 0; n <= 7; n++) {
            TreadRing y = ran(8, "c=new " + n + ";", 1);
            due("FIELDS", y.slot(0, 2), n);
            dueAll("ROOTS", roots(y), NONE, NONE, 0, NONE, NONE, NONE);
        }
        fault("c=new 8;", 2, 6);
        fault("c=new;", 1, 5);
        fault("c=new 1", 1, 7);
        fault("c new 1;", 1, 2);

        says(0, "| R = none ;");
        dueAll("ROOTS", roots(ran(8, "a=new 0;b=new 0;a=none;", 3)), NONE, 2, NONE, NONE, NONE, NONE);
        dueAll("of one that names none", roots(ran(8, "a=none;", 1)), NONE, NONE, NONE, NONE, NONE, NONE);
        fault("a=none", 1, 6);
        fault("none=a;", 1, 0);
        fault("a=nones;", 1, 2);

        says(0, "| R = R ;");
        dueAll("ROOTS", roots(ran(8, "a=new 0;f=a;c=b;b=f;", 4)), 0, 0, NONE, NONE, NONE, 0);
        dueAll("itself", roots(ran(8, "a=new 0;a=a;", 2)), 0, NONE, NONE, NONE, NONE, NONE);
        fault("a=b b;", 1, 4);
        fault("a==b;", 1, 2);

        says(0, "| R = R . N ; (load())");
        TreadRing y = ran(8, "a=new 7;b=new 0;a.6=b;c=a.6;d=a.0;a=a.6;", 6);
        dueAll("ROOTS", roots(y), 16, 16, 16, NONE, NONE, NONE);
        fault("a=b.;", 1, 4);
        fault("a=b.c;", 1, 4);
        fault("a=b.0.0;", 1, 5);
        fault("a=none.0;", 1, 6);

        says(0, "| R . N = R ; | R . N = none ; (store())");
        TreadRing z = ran(8, "a=new 7;a.6=a;a.0=a;a.0=none;a.1=f;", 5);
        due("field(0, 6)", z.field(0, 6), 0);
        due("field(0, 0)", z.field(0, 0), NONE);
        z.start();
        program(z, "a.6=a;a.5=none;b=a.6;c=a;d=none;");
        due("while a CYCLE RUNS", z.run(), 5);
        due("no STEPS but by step and new", z.about(3), 0);
        fault("a.0=new 1;", 1, 4);
        fault("a.0=b.0;", 1, 5);
        fault("a.0.0=b;", 1, 3);
        fault("a.=b;", 1, 2);
        fault("a.0;", 1, 3);
        fault("a.0 b;", 1, 4);
    }

    private static void steps() {
        says(0, "| step N ; (1 .. 99 STEPS at most are done, if a CYCLE RUNS)");
        fine("step 1;", 1);
        fine("step 99;", 1);
        fault("step 0;", 2, 5);
        fault("step 100;", 2, 5);
        fault("step;", 1, 4);
        fault("step a;", 1, 5);
        fault("step 1", 1, 6);
        due("none RUNS", ran(8, "step 99;", 1).about(3), 0);
        for (int n = 1; n <= 16; n++) {
            TreadRing x = quiet(8);
            x.make(0, 7);
            x.make(1, 7);
            x.start();
            program(x, "step " + n + ";");
            x.run();
            due("STEPS of fourteen by step " + n, x.about(3), Math.min(n, 14));
        }
        TreadRing y = quiet(8);
        for (int i = 0; i < 15; i++) {
            y.make(1, 7);
            y.store(1, 0, 0);
            y.copy(0, 1);
        }
        y.start();
        program(y, "step 99;");
        y.run();
        due("99 STEPS of 105", y.about(3), 99);
        due("FORCED", y.about(4), 0);
    }

    private static void blocks() {
        says(0, "| times N { {ITEM} } (2 .. 9; what is in it so many times)");
        for (int n = 2; n <= 9; n++) {
            due("MADE by times " + n, ran(8, "times " + n + "{a=new 0;b=a;}", 2 * n).about(6), n);
        }
        fault("times 1{}", 2, 6);
        fault("times 0{}", 2, 6);
        fault("times 10{}", 2, 6);
        fault("times{}", 1, 5);
        fault("times a{}", 1, 6);
        fault("times 2 a=b;", 1, 8);
        fault("times 2}", 1, 7);
        fault("times 2{", 1, 8);
        fault("times 2{a=b;", 1, 12);
        fine("times 2{}", 1);
        fine("times 2{a=b;c=d;}", 3);
        ran(8, "times 9{}a=b;", 1);

        says(0, "| if R { {ITEM} } (if R names an OBJECT then).");
        ran(8, "if a{b=a;b=a;}c=a;", 1);
        ran(8, "a=new 0;if a{b=a;b=a;}c=a;", 4);
        ran(8, "a=new 0;a=none;if a{b=a;}", 2);
        ran(8, "a=new 0;if a{a=none;b=a;}", 3);
        ran(8, "times 3{if a{b=a;}a=new 0;}", 5);
        ran(8, "a=new 0;if a{}", 1);
        ran(8, "a=new 0;if a{if a{if a{b=a;if b{}}c=a;}d=a;}", 4);
        ran(8, "a=new 0;if a{times 2{if a{b=a;}times 3{c=a;}}}", 9);
        fault("if 0{}", 1, 3);
        fault("if none{}", 1, 3);
        fault("if{}", 1, 2);
        fault("if a;", 1, 4);
        fault("if a{", 1, 5);

        says(0, "R is a letter a .. f (ROOT 0 .. 5); N of a FIELD is 0 .. 6.");
        dueAll("ROOTS", roots(ran(8, "a=new 0;b=new 0;c=new 0;d=new 0;e=new 0;f=new 0;", 6)), 0, 2, 4, 6, 8, 10);
        fault("g=a;", 1, 0);
        fault("a=g;", 1, 2);
        fault("`=a;", 1, 0);
        fault("if g{}", 1, 3);
        fine("a.0=b;a.6=b;a=b.0;a=b.6;", 4);
        fault("a.7=b;", 2, 2);
        fault("a=b.7;", 2, 4);
        fault("a.9=b;", 2, 2);
    }

    // ---- TOKENS

    private static void tokens() {
        says(0, "TOKENS, blanks (32, 10) aside, the longest: words (a .. z), numbers (digits), the signs = . ; { } .");
        fine(" a\n=\nnew 7\n;\n\n  times  2  {  if\na\n{  }  }  ", 3);
        fine("a=new7;step1;times2{}", 3);
        fault("a=newb;", 1, 2);
        fault("ab=c;", 1, 0);
        fault("a b=c;", 1, 2);
        fault("step9 9;", 1, 6);
        fault("step 9a;", 1, 6);
        fault("ste p 9;", 1, 0);
        fault("steps 9;", 1, 0);
        fault("ifa{}", 1, 0);
        fault("times22{}", 2, 5);
        fault("az=c;", 1, 0);
        fault("zz=c;", 1, 0);
        fault("aa=c;", 1, 0);
        for (String word : new String[] {"xtep 1;", "stex 1;", "ximes 2{}", "timex 2{}", "xf a{}", "ix a{}", "i a{}", "ste 1;"}) {
            fault(word, 1, 0);
        }
        for (String word : new String[] {"a=xew 1;", "a=nex 1;", "a=xone;", "a=nonx;", "a=non;", "a=ne 1;"}) {
            fault(word, 1, 2);
        }
        for (char digit = '0'; digit <= '7'; digit++) {
            fine("a=new " + digit + ";", 1);
        }
        fault("a=new 8;", 2, 6);
        fault("a=new 9;", 2, 6);
        int[] others = {0, 9, 11, 13, 31, 33, '/', ':', '<', '>', 'A', 'Z', '@', '[', '`', '|', '~', '-', '+', 127, 128, 160, 255};
        for (int sign : others) {
            fault("a=b;" + (char) sign, 1, 4);
            fault("a" + (char) sign + "=b;", 1, 1);
            fault("a=new " + (char) sign + "1;", 1, 6);
        }
    }

    private static void bounds() {
        says(0, "At most 40 ITEMS, one within 3 others at most (times, if).");
        fine("a=b;".repeat(40), 40);
        fine("a=b;".repeat(39) + "if a{}", 40);
        fine("times 2{" + "a=b;".repeat(39) + "}", 40);
        fault("a=b;".repeat(41), 3, 160);
        fault("a=b;".repeat(39) + "if a{a=b;}", 3, 161);
        fault("times 2{" + "a=b;".repeat(40) + "}", 3, 164);
        fine("if a{if b{if c{a=b;}}}", 4);
        fine("if a{if b{if c{if d{}}}}", 4);
        fine("times 2{if b{times 2{step 1;if d{}}}if b{}}if a{if b{if c{a=b;}}}", 10);
        fault("if a{if b{if c{if d{a=b;}}}}", 3, 20);
        fault("times 2{times 2{times 2{times 2{step 1;}}}}", 3, 32);
        fault("if a{if b{if c{if d{if e{}}}}}", 3, 20);

        says(0, "FAULTS, the first by its place (a TOKEN's first byte; the end's, the text's length), of one place the least:");
        fault("a=b;x step 0;", 1, 4);
        fault("step 0; x", 2, 5);
        fault("a=new 9; }", 2, 6);
        fault("a=b;".repeat(41) + "step 0;x", 3, 160);
        fault("a=b", 1, 3);
        fault("a=b   ", 1, 6);
        fault("a=\n\n", 1, 4);
        fault("a", 1, 1);
        fault("if a{a=b;\n", 1, 10);
        fault("a=b;".repeat(40) + "x", 1, 160);
        fault("a=b;".repeat(40) + "}", 1, 160);
        fault("if a{if b{if c{if d{x", 1, 20);
        fault("if a{if b{if c{if d{;", 1, 20);
        fault("a=1000;", 1, 2);
        fault("9=a;", 1, 0);

        says(0, "1 a TOKEN that is none, or can't stand there;");
        fault("A=b;", 1, 0);
        fault("a=b;;", 1, 4);
        fault("}", 1, 0);
        fault("a=b;}", 1, 4);
        fault("if a{}}", 1, 6);
        fault("{", 1, 0);
        fault("new 1;", 1, 0);
        fault("if a a=b;", 1, 5);
        fault("a=if;", 1, 2);
        fault("a=new b;", 1, 6);

        says(0, "2 a number out of its bounds (of four digits and more, too);");
        fine("a=new 007;a=b.006;step 099;times 009{}", 4);
        fine("a=new 000;a.000=b;step 001;times 002{}", 4);
        fault("a=new 0007;", 2, 6);
        fault("a=new 0000;", 2, 6);
        fault("a=b.0000;", 2, 4);
        fault("step 0099;", 2, 5);
        fault("times 0002{}", 2, 6);
        fault("step 4294967297;", 2, 5);
        fault("step 99999999999999999999;", 2, 5);
        fault("a=new 008;", 2, 6);
        fault("step 999;", 2, 5);
        fault("step 000;", 2, 5);
        fault("a=new 8", 2, 6);
        fault("a=new " + "7".repeat(394), 2, 6);

        says(0, "3 an ITEM too many, or within 4 others (at its first TOKEN).");
        fault("a=b;".repeat(40) + "  a", 3, 162);
        fault("a=b;".repeat(40) + "if", 3, 160);
        fault("a=b;".repeat(40) + "step 0;", 3, 160);
        fault("a=b;".repeat(40) + "times", 3, 160);
        fault("if a{if b{if c{if d{ times 2{}}}}}", 3, 21);
        fault("if a{if b{if c{if d{step", 3, 20);
    }

    // ---- how it is RUN

    private static void runs() {
        says(0, "It is RUN: its ITEMS are gone through; GOES are all but times and if;");
        ran(8, "times 2{times 2{times 2{if a{}}}}", 0);
        ran(8, "times 2{times 2{times 2{a=none;}}}", 8);
        ran(8, "a=new 1;a.0=a;b=a.0;c=b;d=none;a.0=none;step 5;", 7);
        ran(8, "times 3{times 2{b=a;}c=a;}", 9);
        due("the last ITEM is done", ran(8, "if a{b=a;}times 2{}f=new 0;", 1).root(5), 0);

        TreadRing y = quiet(8);
        String[] texts = {"times 2{a=b;if c{d=e;}a=b;}", "a=b;times 3{a=b;}", "a=b;a=b;a=b;a=b;", "if a{", "a=b;a=b;a=b;", "times 2{times", "a=b;a=b;"};
        int[] goes = {4, 4, 4, 4, 3, 3, 2};
        for (int i = 0; i < texts.length; i++) {
            program(y, texts[i]);
            due("one behind another: " + texts[i], y.run(), goes[i]);
        }

        says(0, "it stops ahead of a GO that is refused (a FIELD that is not there, a ROOT that names none),");
        due("a=b.0 of one without it", ran(8, "b=new 0;a=b.0;c=b;", 1).root(2), NONE);
        due("a=b.1 of one FIELD", ran(8, "b=new 1;a=b.1;c=b;", 1).root(2), NONE);
        due("a.6= of six FIELDS", ran(8, "a=new 6;a.6=a;c=a;", 1).root(2), NONE);
        due("a.0=none without it", ran(8, "a=new 0;a.0=none;c=a;", 1).root(2), NONE);
        due("a=b.0 of none", ran(8, "a=new 0;a=b.0;c=a;", 1).root(0), 0);
        due("b.0=a of none", ran(8, "a=new 0;b.0=a;c=a;", 1).root(2), NONE);
        due("in a block, all of it", ran(8, "a=new 0;times 9{if a{b=a;a=a.0;}}c=a;", 2).root(2), NONE);
        ran(8, "a=b.0;", 0);
        ran(8, "a=new 1;a.0=b;b=a.0;", 3);

        says(0, "behind one by which nothing could be MADE,");
        TreadRing x = ran(1, "a=new 7;b=new 7;c=new 7;d=a;", 3);
        dueAll("ROOTS", roots(x), 0, 8, NONE, NONE, NONE, NONE);
        due("FORCED", x.about(4), 14);
        due("in a block, all of it", ran(1, "a=new 7;b=new 7;times 9{c=new 7;d=a;}e=a;", 3).root(4), NONE);

        says(0, "and behind 300 GOES.");
        // 9 * 8 * 4 = 288, and 11 or 12 more.
        String most = "times 9{times 8{times 4{b=a;}}}";
        due("299 GOES, and one", ran(8, "a=new 0;" + most + "b=a;".repeat(10) + "c=a;d=a;", 300).root(3), NONE);
        due("the 300th is done", ran(8, "a=new 0;" + most + "b=a;".repeat(10) + "c=a;d=a;", 300).root(2), 0);
        due("299 alone", ran(8, "a=new 0;" + most + "b=a;".repeat(9) + "c=a;", 299).root(2), 0);
        due("300 in blocks", ran(8, "times 9{times 9{times 9{a=new 0;}}}b=a;", 300).root(1), NONE);
    }

    public static void main(String[] args) {
        texts();
        steps();
        blocks();
        tokens();
        bounds();
        runs();
        tell();
    }
}
