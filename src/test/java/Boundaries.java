import java.lang.reflect.InvocationTargetException;
import java.lang.reflect.Method;
import java.math.BigInteger;
import java.util.ArrayList;
import java.util.Comparator;
import java.util.List;
import java.util.Objects;
import java.util.function.Supplier;
import java.util.function.ToIntFunction;

/** What the boundary tests share: suits near their limits, and what a refused call must leave. */
final class Boundaries {
    static final int BAD = SuitByTailors.BAD;
    static final int NO = SuitByTailors.NO;
    static final int FULL = SuitByTailors.FULL;
    static final int NONE = SuitByTailors.NONE;
    static final int LOW = Integer.MIN_VALUE;
    static final int HIGH = Integer.MAX_VALUE;

    /** As many TAILORS, PARTS and SEAMS as there may be; seams 6 and 9 are by one TAILOR. */
    static final String FULLEST = "t80;t120;t100;t99;t101;t110;"
            + "p0,10,0;p1,199,99;p2,60,5;p3,61,7;p4,59,3;p5,55,2;p2,62,1;"
            + "s0,1;s1,2;s2,3;s3,4;s4,5;s5,6;s6,2;s2,4;s3,5;s2,6;g20;z998;c250;";
    /** Three PARTS and two SEAMS, the second by one TAILOR. */
    static final String SMALL = "t100;t90;p0,60,5;p1,66,3;p1,64,2;s0,1;s1,2;g2;z417;c150;";

    private static final String TESTS = "promise";
    private static int wrong = 0;
    private static String test = "";

    private Boundaries() { }

    /** Does every test of the class, and wants one at least for each of these promises. */
    static void run(Class<?> tests, int... promises) {
        List<Method> found = new ArrayList<>();
        for (Method m : tests.getDeclaredMethods()) {
            if (m.getName().startsWith(TESTS)) {
                found.add(m);
            }
        }
        found.sort(Comparator.comparing(Method::getName));
        for (int promise : promises) {
            String name = String.format(TESTS + "%02d", promise);
            due("a test for " + name, found.stream().anyMatch(m -> m.getName().startsWith(name)), true);
        }
        for (Method m : found) {
            runOne(m);
        }
        System.out.println(tests.getName() + ": " + found.size() + " tests, "
                + (wrong == 0 ? "all as due" : wrong + " not as due"));
        if (wrong != 0) {
            System.exit(1);
        }
    }

    private static void runOne(Method m) {
        test = m.getName();
        try {
            m.invoke(null);
        } catch (InvocationTargetException | IllegalAccessException e) {
            due("ends", String.valueOf(e.getCause()), "without an exception");
        }
    }

    static void due(String call, Object got, Object want) {
        if (!Objects.equals(got, want)) {
            wrong++;
            System.out.println(test + ": " + call + " answered " + got + ", due is " + want);
        }
    }

    /** The call answers so, and all is as if it had not been: a refused call, or a question. */
    static void unchanged(String call, Supplier<SuitByTailors> made, ToIntFunction<SuitByTailors> asked, int want) {
        SuitByTailors x = made.get();
        due(call, asked.applyAsInt(x), want);
        due(call + ": all of it then", whole(x), whole(made.get()));
    }

    /** The numbers next to a range, and those as far away as can be. */
    static int[] outside(int low, int high) {
        return new int[] {low - 1, high + 1, LOW, HIGH};
    }

    /** All that can be seen of an object; it is used up then. Some 300 calls of its 512. */
    static List<Integer> whole(SuitByTailors x) {
        List<Integer> seen = new ArrayList<>();
        for (int what = 0; what < 8; what++) {
            seen.add(x.count(what));
        }
        seen.add(x.fault());
        addParts(x, seen);
        addSearches(x, seen);
        for (int i = 0; i < 12; i++) {
            seen.add(x.thumb(i));
        }
        for (int i = x.count(5); i > 0; i--) {
            seen.add(x.undo());
            addFitting(x, seen);
        }
        seen.add(x.undo());
        for (int i = x.count(6); i > 0; i--) {
            seen.add(x.back());
            addFitting(x, seen);
        }
        seen.add(x.lay());
        addParts(x, seen);
        seen.add(x.closes());
        seen.add(x.bolts(-1));
        return seen;
    }

    private static void addParts(SuitByTailors x, List<Integer> seen) {
        int parts = x.count(1);
        for (int i = 0; i < parts; i++) {
            for (int what = 0; what < 7; what++) {
                seen.add(x.part(i, what));
            }
        }
    }

    private static void addSearches(SuitByTailors x, List<Integer> seen) {
        seen.add(x.gap(-1));
        seen.add(x.closes());
        seen.add(x.order(-1));
        seen.add(x.order(0));
        seen.add(x.bribes(0));
        seen.add(x.bribes(1));
        seen.add(x.closed(-1));
        seen.add(x.bolts(-1));
        seen.add(x.coat(0));
        seen.add(x.year(0, 100, 1));
        int tailors = x.count(0);
        for (int t = 0; t < tailors; t++) {
            seen.add(x.inch(t, 0));
            seen.add(x.inch(t, 1));
        }
    }

    private static void addFitting(SuitByTailors x, List<Integer> seen) {
        int parts = x.count(1);
        for (int i = 0; i < parts; i++) {
            seen.add(x.part(i, 3));
            seen.add(x.part(i, 6));
        }
    }

    /** Good ITEMS of so many bytes, 3 at least: settings alone. */
    static String settings(int bytes) {
        String first = bytes % 3 == 0 ? "g1;" : bytes % 3 == 1 ? "g01;" : "g001;";
        return first + "g1;".repeat((bytes - first.length()) / 3);
    }

    /** Nothing is at its limit: three that can be UNDONE, one KEPT, two SEEN, two PINS. */
    static SuitByTailors some() {
        SuitByTailors x = Checks.laid(SMALL);
        x.change(0, 2);
        x.alter(1, 4);
        x.keep();
        x.alter(0, -3);
        x.seen(0, 60, 59);
        x.seen(1, 66, 60);
        x.pin(0);
        x.pin(0);
        Checks.tell(x, "g7;");
        return x;
    }

    /** Everything is at its limit: 8 that can be UNDONE, 2 KEPT, 10 SEEN, 12 PINS, 300 bytes. */
    static SuitByTailors full() {
        SuitByTailors x = Checks.laid(FULLEST);
        x.alter(0, 9);
        x.keep();
        x.change(0, 6);
        x.change(2, 5);
        x.keep();
        for (int i = 0; i < 8; i++) {
            x.alter(i % 7, i - 4);
        }
        for (int i = 0; i < 10; i++) {
            x.seen(i % 6, 100 + i, 90 + i);
        }
        for (int i = 0; i < 12; i++) {
            x.pin(i % 5);
        }
        Checks.tell(x, settings(300 - FULLEST.length()));
        return x;
    }

    /** The SLIP as the document tells it, in numbers that can't be too large. */
    static int slip(int part, int k, int z) {
        int s = k < 5 ? k : 5;
        BigInteger x = BigInteger.valueOf(7919).multiply(BigInteger.valueOf(z))
                .add(BigInteger.valueOf(6151L * part + 3571L * k + 1));
        return x.multiply(x).mod(BigInteger.valueOf(65521)).mod(BigInteger.valueOf(2L * s + 1)).intValue() - s;
    }

    /** Makes a PART as long as this, by 9 at a time. */
    static void makeLong(SuitByTailors x, int part, int length) {
        for (int time = 0; time < 40 && x.part(part, 6) != length; time++) {
            x.alter(part, Math.max(-9, Math.min(9, length - x.part(part, 6))));
        }
        due("part " + part + " made so long", x.part(part, 6), length);
    }

    /** A suit of PARTS of just these lengths, all of true inches, and then these ITEMS. */
    static SuitByTailors ofLengths(String items, int... lengths) {
        StringBuilder text = new StringBuilder("t100;");
        for (int length : lengths) {
            text.append("p0,").append(Math.max(10, Math.min(199, length))).append(",1;");
        }
        SuitByTailors x = Checks.laid(text + items);
        for (int i = 0; i < lengths.length; i++) {
            makeLong(x, i, lengths[i]);
        }
        return x;
    }
}
