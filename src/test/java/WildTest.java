import java.lang.reflect.InvocationTargetException;
import java.lang.reflect.Method;
import java.lang.reflect.Modifier;
import java.util.ArrayList;
import java.util.Arrays;
import java.util.Comparator;
import java.util.List;

/** Every call with every kind of arguments, far ones too, in several states: none throws, none fails to end. */
public final class WildTest extends Asked {
    private static final int[] MANY = {Integer.MIN_VALUE, Integer.MIN_VALUE + 1, -65_536, -129, -128, -17, -16, -8, -3, -2, -1, 0, 1, 2,
        3, 4, 5, 6, 7, 8, 9, 12, 15, 16, 17, 18, 19, 20, 21, 40, 63, 64, 65, 99, 100, 126, 127, 128, 129, 200, 201, 255, 256, 300,
        380, 381, 400, 401, 499, 500, 501, 512, 9_999, 10_000, 10_007, 65_536, Integer.MAX_VALUE - 1, Integer.MAX_VALUE};
    private static final int[] SOME = {Integer.MIN_VALUE, -2, -1, 0, 1, 3, 5, 6, 7, 8, 16, 200, 201, Integer.MAX_VALUE};
    private static final int[] FEW = {Integer.MIN_VALUE, -1, 0, 1, Integer.MAX_VALUE};

    private static List<Method> face() {
        List<Method> all = new ArrayList<>();
        for (Method m : TreadRing.class.getDeclaredMethods()) {
            if (Modifier.isPublic(m.getModifiers())) {
                all.add(m);
            }
        }
        all.sort(Comparator.comparing(Method::getName));
        return all;
    }

    /** A new object, a full HEAP, one on which a CYCLE RUNS, one with a PROGRAM and ACTS to be done again. */
    private static TreadRing state(int which) {
        if (which == 0) {
            return new TreadRing();
        }
        if (which == 1) {
            TreadRing x = quiet(8);
            for (int i = 0; i < 64; i++) {
                x.make(1, 1);
                x.store(1, 0, 0);
                x.copy(0, 1);
            }
            return x;
        }
        TreadRing x = startedChain(which % 4);
        x.work(1);
        if (which == 3) {
            x.image(0);
            program(x, "times 9{times 9{a=new 7;b=new 1;b.0=a;c=b.0;if c{step 3;}}}");
            x.run();
            x.undo();
            type(x, "a=b;".repeat(100));
        }
        return x;
    }

    private static void call(Method m, TreadRing x, int[] arguments) throws Exception {
        Object[] boxed = new Object[arguments.length];
        for (int i = 0; i < boxed.length; i++) {
            boxed[i] = arguments[i];
        }
        try {
            m.invoke(x, boxed);
        } catch (InvocationTargetException e) {
            due(m.getName() + Arrays.toString(arguments) + " threw " + e.getCause(), false, true);
        }
    }

    private static void all(Method m, TreadRing x, int[] arguments, int at) throws Exception {
        if (at == arguments.length) {
            call(m, x, arguments);
            return;
        }
        for (int v : arguments.length <= 2 ? MANY : arguments.length <= 4 ? SOME : FEW) {
            arguments[at] = v;
            all(m, x, arguments, at + 1);
        }
    }

    public static void main(String[] args) throws Exception {
        for (int which = 0; which <= 3; which++) {
            for (Method m : face()) {
                TreadRing x = state(which);
                all(m, x, new int[m.getParameterCount()], 0);
                due("law(1) behind " + m.getName(), x.law(1), 0);
                due("a new OBJECT behind " + m.getName(), x.open(8) && x.make(0, 0) == 0, true);
            }
        }
        tell();
    }
}
