import java.nio.charset.StandardCharsets;
import java.util.Random;

/** Runs of calls drawn from fixed seeds: the class answers as the model does. */
public final class ModelTest {
    private static final int RUNS = 600;
    private static final int CALLS = 512;
    private static final int MOST_TOLD = 8;

    private final Random random;
    private final int run;
    private final SuitByTailors x = new SuitByTailors();
    private final Model m = new Model();
    private int calls = 0;
    private int wrong = 0;
    private int orders = 0;

    private ModelTest(int run) {
        this.run = run;
        random = new Random(7919L * run + 1);
    }

    private void same(String call, int got, int want) {
        calls++;
        if (got != want) {
            wrong++;
            if (wrong <= MOST_TOLD) {
                System.out.println("run " + run + ", call " + calls + ": " + call + " answered "
                        + got + ", the model " + want);
            }
        }
    }

    /** A number in and around the range; far away now and then. */
    private int near(int low, int high) {
        int far = random.nextInt(60);
        if (far == 0) {
            return random.nextInt();
        }
        if (far == 1) {
            return random.nextBoolean() ? Integer.MAX_VALUE : Integer.MIN_VALUE;
        }
        if (far < 5) {
            return random.nextBoolean() ? low - 1 : high + 1;
        }
        return low + random.nextInt(high - low + 1);
    }

    private int within(int low, int high) {
        return low + random.nextInt(high - low + 1);
    }

    /** A TEXT in which parts are alike enough that some suits close. */
    private String text() {
        StringBuilder text = new StringBuilder();
        int tailors = within(1, 6);
        int parts = within(1, 7);
        int middle = random.nextInt(4) == 0 ? -1 : within(15, 190);
        int spread = within(0, 6);
        for (int i = 0; i < tailors; i++) {
            text.append('t').append(random.nextBoolean() ? 100 : within(80, 120)).append(';');
        }
        for (int i = 0; i < parts; i++) {
            int length = middle < 0 ? within(10, 199) : Math.min(199, Math.max(10, middle + within(-spread, spread)));
            text.append('p').append(random.nextInt(tailors)).append(',').append(length).append(',')
                    .append(random.nextInt(3) == 0 ? within(0, 99) : within(0, 4)).append(';');
        }
        for (int i = parts < 2 ? 0 : within(0, 10); i > 0; i--) {
            int first = random.nextInt(parts);
            int second = (first + within(1, parts - 1)) % parts;
            text.append('s').append(first).append(',').append(second).append(';');
        }
        for (int i = within(0, 3); i > 0; i--) {
            text.append(setting());
        }
        return text.toString();
    }

    private String setting() {
        switch (random.nextInt(3)) {
            case 0: return "g" + within(0, 20) + ";";
            case 1: return "z" + within(0, 999) + ";";
            default: return "c" + within(random.nextBoolean() ? 1 : 150, 999) + ";";
        }
    }

    /** The TEXT with a byte put, lost or made another, or an item more or moved. */
    private String spoiled(String text) {
        StringBuilder spoiled = new StringBuilder(text);
        int at = random.nextInt(text.length());
        String signs = "0123456789,;tpsgzc \u00e9\u0000T";
        char sign = signs.charAt(random.nextInt(signs.length()));
        String[] items = text.split(";");
        switch (random.nextInt(5)) {
            case 0: spoiled.setCharAt(at, sign); break;
            case 1: spoiled.insert(at, sign); break;
            case 2: spoiled.deleteCharAt(at); break;
            case 3: spoiled.insert(0, items[random.nextInt(items.length)] + ";"); break;
            default: spoiled.append(items[random.nextInt(items.length)]).append(";");
        }
        return spoiled.toString();
    }

    private void write(int n, long v) {
        same("write(" + n + ", " + v + ")", x.write(n, v), m.write(n, v));
    }

    private void tell(String text) {
        byte[] bytes = text.getBytes(StandardCharsets.ISO_8859_1);
        int at = 0;
        while (at < bytes.length) {
            int n = Math.min(bytes.length - at, within(6, 8));
            // What is above the lowest n bytes must not count.
            long v = random.nextBoolean() ? 0 : random.nextLong();
            for (int i = 0; i < n; i++) {
                v = v << 8 | bytes[at + i] & 255;
            }
            write(n, v);
            at += n;
        }
    }

    private void layAnew() {
        same("wipe()", x.wipe(), m.wipe());
        String text = text();
        tell(random.nextInt(3) == 0 ? spoiled(text) : text);
        same("fault()", x.fault(), m.fault());
        same("lay()", x.lay(), m.lay());
    }

    private void call() {
        int parts = m.count(1);
        int i = near(-1, parts - 1);
        switch (random.nextInt(34)) {
            case 0: layOrWrite(); break;
            case 1: same("fault()", x.fault(), m.fault()); break;
            case 2: case 3: case 4: part(); break;
            case 5: same("gap(" + i + ")", x.gap(i), m.gap(i)); break;
            case 6: gapOfSeam(); break;
            case 7: same("closes()", x.closes(), m.closes()); break;
            case 8: case 9: change(); break;
            case 10: case 11: case 12: case 13: alter(); break;
            case 14: same("undo()", x.undo(), m.undo()); break;
            case 15: order(i); break;
            case 16: case 17: bribes(); break;
            case 18: same("closed(" + i + ")", x.closed(i), m.closed(i)); break;
            case 19: case 20: seen(); break;
            case 21: case 22: inch(); break;
            case 23: added(); break;
            case 24: case 25: same("bolts(" + i + ")", x.bolts(i), m.bolts(i)); break;
            case 26: coat(); break;
            case 27: case 28: pin(); break;
            case 29: thumb(); break;
            case 30: year(); break;
            case 31: same("keep()", x.keep(), m.keep()); break;
            case 32: back(); break;
            default: count();
        }
    }

    private void layOrWrite() {
        if (random.nextInt(3) == 0 && calls < CALLS - 50) {
            layAnew();
        } else {
            write(near(1, 8), random.nextLong());
        }
    }

    private void part() {
        int i = near(0, m.count(1) - 1);
        int what = near(0, 6);
        same("part(" + i + ", " + what + ")", x.part(i, what), m.part(i, what));
    }

    private void gapOfSeam() {
        int s = near(-1, m.count(2));
        same("gap(" + s + ")", x.gap(s), m.gap(s));
    }

    private void change() {
        int a = near(0, m.count(1) - 1);
        int b = near(0, m.count(1) - 1);
        same("change(" + a + ", " + b + ")", x.change(a, b), m.change(a, b));
    }

    private void alter() {
        int i = near(0, m.count(1) - 1);
        int d = near(-9, 9);
        int again = random.nextInt(12) == 0 ? within(1, 20) : 1;
        for (int time = 0; time < again && calls < CALLS; time++) {
            same("alter(" + i + ", " + d + ")", x.alter(i, d), m.alter(i, d));
        }
    }

    /** The model takes long for this one, so not all of a run. */
    private void order(int i) {
        if (orders < 6) {
            orders++;
            same("order(" + i + ")", x.order(i), m.order(i));
        }
    }

    private void bribes() {
        int what = near(0, 1);
        same("bribes(" + what + ")", x.bribes(what), m.bribes(what));
    }

    private void seen() {
        int t = near(0, m.count(0) - 1);
        int told = near(10, 199);
        int cut = random.nextInt(4) == 0 ? near(1, 299) : (int) (told * (long) within(90, 110) / 100);
        same("seen(" + t + ", " + told + ", " + cut + ")", x.seen(t, told, cut), m.seen(t, told, cut));
        if (random.nextInt(12) == 0) {
            same("forget()", x.forget(), m.forget());
        }
    }

    private void inch() {
        int t = near(0, m.count(0) - 1);
        int what = near(0, 1);
        same("inch(" + t + ", " + what + ")", x.inch(t, what), m.inch(t, what));
    }

    private void added() {
        int i = near(0, m.count(1) - 1);
        int v = random.nextInt(4) == 0 ? near(1, 299) : m.part(i, 5) + within(-13, 13);
        same("added(" + i + ", " + v + ")", x.added(i, v), m.added(i, v));
    }

    private void coat() {
        int what = near(0, 1);
        same("coat(" + what + ")", x.coat(what), m.coat(what));
    }

    private void pin() {
        int s = near(0, m.count(2));
        same("pin(" + s + ")", x.pin(s), m.pin(s));
        if (random.nextInt(30) == 0) {
            same("noPins()", x.noPins(), m.noPins());
        }
    }

    private void thumb() {
        int i = near(0, m.count(4));
        same("thumb(" + i + ")", x.thumb(i), m.thumb(i));
    }

    private void year() {
        int z = near(0, 999);
        int n = near(1, 100);
        int what = near(0, 1);
        same("year(" + z + ", " + n + ", " + what + ")", x.year(z, n, what), m.year(z, n, what));
    }

    private void back() {
        if (random.nextBoolean()) {
            same("back()", x.back(), m.back());
        }
    }

    private void count() {
        int what = near(0, 7);
        same("count(" + what + ")", x.count(what), m.count(what));
    }

    private int go() {
        if (run % 4 != 0) {
            layAnew();
        }
        while (calls < CALLS - 50) {
            call();
        }
        return wrong;
    }

    public static void main(String[] args) {
        int wrong = 0;
        for (int run = 0; run < RUNS; run++) {
            wrong += new ModelTest(run).go();
        }
        System.out.println("ModelTest: " + (wrong == 0 ? "all as due" : wrong + " not as due"));
        if (wrong != 0) {
            System.exit(1);
        }
    }
}
