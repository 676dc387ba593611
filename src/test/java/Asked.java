import java.util.ArrayList;
import java.util.Arrays;
import java.util.List;

/** What tests of answers share: the sentence that is tested, answers that are due, HEAPS that are asked. */
abstract class Asked {
    static final int NONE = TreadRing.NONE;
    static final int FREE = 0;
    static final int ECRU = 1;
    static final int GREY = 2;
    static final int BLACK = 3;

    /** The promise that is tested, 0 for the document's Terms. */
    static int promise = 0;

    private static int wrong = 0;
    private static int asked = 0;
    private static int askedOfSentence = 1;
    private static String sentence = "";

    /** What follows tests these words of a promise (0: of the Terms). QuotesTest reads the words in the source. */
    static void says(int ofPromise, String words) {
        endSentence();
        promise = ofPromise;
        sentence = words;
        askedOfSentence = 0;
    }

    private static void endSentence() {
        if (askedOfSentence == 0) {
            wrong++;
            System.out.println("promise " + promise + " (" + sentence + "): nothing was asked");
        }
    }

    static void due(String call, int got, int want) {
        due(call, Integer.toString(got), Integer.toString(want));
    }

    static void due(String call, boolean got, boolean want) {
        due(call, Boolean.toString(got), Boolean.toString(want));
    }

    /** Several answers at once. */
    static void dueAll(String call, int[] got, int... want) {
        due(call, Arrays.toString(got), Arrays.toString(want));
    }

    private static void due(String call, String got, String want) {
        asked++;
        askedOfSentence++;
        if (!got.equals(want)) {
            wrong++;
            String words = sentence.isEmpty() ? "" : " (" + sentence + ")";
            System.out.println("promise " + promise + words + ": " + call + " answered " + got + ", due is " + want);
        }
    }

    /** A test's last call. */
    static void tell() {
        endSentence();
        System.out.println(asked + " answers asked, " + wrong + " not as due");
        if (wrong != 0) {
            System.exit(1);
        }
    }

    // ---- HEAPS

    /** A HEAP on which nothing starts or steps by itself. */
    static TreadRing quiet(int pages) {
        TreadRing x = new TreadRing();
        x.open(pages);
        x.turn(2, 0);
        x.turn(3, 0);
        return x;
    }

    /** ROOT 0 names 0 (two FIELDS: 4, and 16), 4 (two FIELDS: 8), 8 (two), 16 (none); 12 is FREE. */
    static TreadRing chain() {
        TreadRing x = quiet(8);
        x.make(0, 2);
        x.make(1, 2);
        x.make(2, 2);
        x.make(3, 0);
        x.store(0, 0, 1);
        x.store(0, 1, 3);
        x.store(1, 0, 2);
        x.copy(1, NONE);
        x.copy(2, NONE);
        x.copy(3, NONE);
        return x;
    }

    /** The same by another BARRIER, a CYCLE RUNNING: 0 is GREY, the others are ECRU. */
    static TreadRing startedChain(int barrier) {
        TreadRing x = chain();
        x.turn(0, barrier);
        x.start();
        return x;
    }

    static void forget(TreadRing x, int... roots) {
        for (int root : roots) {
            x.copy(root, NONE);
        }
    }

    /** OBJECTS that nobody names: ROOT 5 names none then. */
    static void litter(TreadRing x, int fields, int n) {
        for (int i = 0; i < n; i++) {
            x.make(5, fields);
        }
        x.copy(5, NONE);
    }

    // ---- PROGRAMS

    static void type(TreadRing x, String text) {
        StringBuilder filled = new StringBuilder(text);
        while (filled.length() % 20 != 0) {
            filled.append(' ');
        }
        x.cut(0);
        for (int at = 0; at < filled.length(); at += 20) {
            int[] five = new int[5];
            for (int i = 0; i < 20; i++) {
                five[i / 4] = five[i / 4] << 8 | filled.charAt(at + i);
            }
            x.feed(five[0], five[1], five[2], five[3], five[4]);
        }
        x.cut(text.length());
    }

    static int program(TreadRing x, String text) {
        type(x, text);
        return x.program();
    }

    // ---- what there is

    static int[] ring(TreadRing x, int size) {
        List<Integer> all = new ArrayList<>();
        for (int i = 0; i <= 64 && x.ring(size, i) != NONE; i++) {
            all.add(x.ring(size, i));
        }
        return row(all);
    }

    static int[] greys(TreadRing x) {
        List<Integer> all = new ArrayList<>();
        for (int i = 0; i <= 64 && x.grey(i) != NONE; i++) {
            all.add(x.grey(i));
        }
        return row(all);
    }

    static int[] row(List<Integer> all) {
        int[] row = new int[all.size()];
        for (int i = 0; i < row.length; i++) {
            row[i] = all.get(i);
        }
        return row;
    }

    static int[] roots(TreadRing x) {
        return new int[] {x.root(0), x.root(1), x.root(2), x.root(3), x.root(4), x.root(5)};
    }

    static int[] weaks(TreadRing x) {
        return new int[] {x.weakly(0), x.weakly(1), x.weakly(2), x.weakly(3)};
    }

    static int[] told(TreadRing x, int i) {
        return new int[] {x.told(i, 0), x.told(i, 1), x.told(i, 2)};
    }

    static int[] ends(TreadRing x) {
        return new int[] {x.end(0), x.end(1), x.end(2), x.end(3)};
    }

    /** All that can be seen of a HEAP itself: nothing of ACTS, the PROGRAM, the TAPE. */
    static String heap(TreadRing x) {
        StringBuilder all = new StringBuilder();
        for (int what = 0; what <= 16; what++) {
            all.append(what == 13 || what == 14 ? "" : x.about(what) + " ");
        }
        all.append(Arrays.toString(roots(x))).append(Arrays.toString(weaks(x)));
        for (int size = 2; size <= 8; size *= 2) {
            all.append(Arrays.toString(ring(x, size)));
        }
        all.append(Arrays.toString(greys(x)));
        for (int i = 0; i < 16; i++) {
            all.append(Arrays.toString(told(x, i)));
        }
        for (int page = 0; page < 8; page++) {
            all.append(x.page(page, 0)).append(' ').append(x.page(page, 1)).append(' ');
        }
        for (int address = 0; address < 128; address += 2) {
            all.append(x.slot(address, 0)).append(x.slot(address, 2)).append(x.slot(address, 4));
            for (int field = 0; field < 7; field++) {
                all.append(' ').append(x.field(address, field));
            }
        }
        return all.toString();
    }

    /** That, and all else that can be seen. */
    static String whole(TreadRing x) {
        return heap(x) + " " + x.about(13) + " " + x.about(14) + " " + x.about(17) + " " + x.about(18) + " "
                + x.fault(0) + " " + x.fault(1);
    }
}
