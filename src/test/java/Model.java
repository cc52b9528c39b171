import java.util.ArrayDeque;
import java.util.ArrayList;
import java.util.Arrays;
import java.util.List;
import java.util.TreeSet;
import java.util.regex.Matcher;
import java.util.regex.Pattern;

/**
 * The document once more, by other means than the class: every search looks at all there is, and
 * nothing is kept that could be worked out anew. ModelTest compares the two.
 */
final class Model {
    static final int BAD = -1, NO = -2, FULL = -3, NONE = -4;

    private static final Pattern ITEM = Pattern.compile(
            "([tgzc])(\\d{1,3});|(s)(\\d{1,3}),(\\d{1,3});|(p)(\\d{1,3}),(\\d{1,3}),(\\d{1,3});");

    /** A TEXT, read. */
    private static final class Sheet {
        final List<Integer> inches = new ArrayList<>();
        final List<int[]> parts = new ArrayList<>();
        final List<int[]> seams = new ArrayList<>();
        int g = 1;
        int z = 0;
        int c = 300;
        int fault = NONE;
    }

    /** An order and what was made longer. */
    private record State(List<Integer> order, List<Integer> longer) { }

    private final StringBuilder text = new StringBuilder();
    private Sheet sheet = read("t100;t110;p0,60,5;p1,60,5;s0,1;");
    private State state = first();
    private final ArrayDeque<State> undoable = new ArrayDeque<>();
    private final ArrayDeque<State> kept = new ArrayDeque<>();
    private final List<int[]> sightings = new ArrayList<>();
    private final List<Integer> pins = new ArrayList<>();

    private static Sheet read(String text) {
        Sheet sheet = new Sheet();
        Matcher m = ITEM.matcher(text);
        int at = 0;
        while (at < text.length()) {
            m.region(at, text.length());
            if (!m.lookingAt() || !take(sheet, m.group())) {
                sheet.fault = at;
                return sheet;
            }
            at = m.end();
        }
        return sheet;
    }

    private static boolean take(Sheet sheet, String item) {
        String[] figures = item.substring(1, item.length() - 1).split(",");
        int[] n = Arrays.stream(figures).mapToInt(Integer::parseInt).toArray();
        int parts = sheet.parts.size();
        switch (item.charAt(0)) {
            case 't':
                return n[0] >= 80 && n[0] <= 120 && sheet.inches.size() < 6 && sheet.inches.add(n[0]);
            case 'p':
                return n[0] < sheet.inches.size() && n[1] >= 10 && n[1] <= 199 && n[2] <= 99
                        && parts < 7 && sheet.parts.add(n);
            case 's':
                return n[0] < parts && n[1] < parts && n[0] != n[1] && sheet.seams.size() < 10
                        && sheet.seams.add(n);
            case 'g':
                sheet.g = n[0];
                return n[0] <= 20;
            case 'z':
                sheet.z = n[0];
                return true;
            default:
                sheet.c = n[0];
                return n[0] >= 1;
        }
    }

    private State first() {
        List<Integer> order = new ArrayList<>();
        List<Integer> longer = new ArrayList<>();
        for (int i = 0; i < sheet.parts.size(); i++) {
            order.add(i);
            longer.add(0);
        }
        return new State(order, longer);
    }

    private boolean isPart(int i) {
        return i >= 0 && i < sheet.parts.size();
    }

    private boolean isTailor(int t) {
        return t >= 0 && t < sheet.inches.size();
    }

    private static boolean isYesNo(int what) {
        return what == 0 || what == 1;
    }

    private static int slip(int part, int k, int z) {
        long s = k > 5 ? 5 : k;
        long x = 1 + 3571L * k + 6151L * part + 7919L * z;
        return (int) (Math.floorMod(x * x, 65521L) % (2 * s + 1) - s);
    }

    private int cut(int part, int slip) {
        int[] p = sheet.parts.get(part);
        return (p[1] + slip) * sheet.inches.get(p[0]) / 100;
    }

    /** How long PARTS would be CUT, those of the set being told rightly. */
    private int[] cuts(List<Integer> order, int z, int set) {
        int[] row = new int[order.size()];
        for (int k = 0; k < row.length; k++) {
            int part = order.get(k);
            row[part] = cut(part, (set & 1 << part) != 0 ? 0 : slip(part, k, z));
        }
        return row;
    }

    private int[] now() {
        int[] row = cuts(state.order, sheet.z, 0);
        for (int i = 0; i < row.length; i++) {
            row[i] += state.longer.get(i);
        }
        return row;
    }

    private int[] gaps(int[] row) {
        return sheet.seams.stream().mapToInt(s -> Math.abs(row[s[0]] - row[s[1]])).toArray();
    }

    private int gapSum(int[] row) {
        return Arrays.stream(gaps(row)).sum();
    }

    private boolean isClosed(int[] row) {
        return Arrays.stream(gaps(row)).allMatch(gap -> gap <= sheet.g);
    }

    int write(int n, long v) {
        if (n < 1 || n > 8) {
            return BAD;
        }
        if (text.length() > 300 - n) {
            return FULL;
        }
        String hex = String.format("%016x", v);
        for (int i = 16 - 2 * n; i < 16; i += 2) {
            text.append((char) Integer.parseInt(hex.substring(i, i + 2), 16));
        }
        return text.length();
    }

    int wipe() {
        int was = text.length();
        text.setLength(0);
        return was;
    }

    int fault() {
        return read(text.toString()).fault;
    }

    int lay() {
        Sheet read = read(text.toString());
        if (read.fault != NONE || read.parts.isEmpty()) {
            return NO;
        }
        sheet = read;
        state = first();
        undoable.clear();
        kept.clear();
        sightings.clear();
        pins.clear();
        return sheet.parts.size();
    }

    int part(int i, int what) {
        if (!isPart(i) || what < 0 || what > 6) {
            return BAD;
        }
        int k = state.order.indexOf(i);
        int slip = slip(i, k, sheet.z);
        int[] p = sheet.parts.get(i);
        return new int[] {p[0], p[1], p[2], k, slip + 100, cut(i, slip), now()[i]}[what];
    }

    int gap(int s) {
        if (s < -1 || s >= sheet.seams.size()) {
            return BAD;
        }
        return s < 0 ? gapSum(now()) : gaps(now())[s];
    }

    int closes() {
        return isClosed(now()) ? 1 : 0;
    }

    private void remember() {
        undoable.push(state);
        if (undoable.size() > 8) {
            undoable.removeLast();
        }
    }

    int change(int a, int b) {
        if (!isPart(a) || !isPart(b) || a == b) {
            return BAD;
        }
        remember();
        State anew = first();
        anew.order.clear();
        anew.order.addAll(state.order);
        anew.order.set(a, state.order.get(b));
        anew.order.set(b, state.order.get(a));
        state = anew;
        return gap(-1);
    }

    int alter(int i, int d) {
        if (!isPart(i) || Math.abs((long) d) > 9) {
            return BAD;
        }
        int length = now()[i] + d;
        if (length < 1 || length > 299) {
            return NO;
        }
        remember();
        List<Integer> longer = new ArrayList<>(state.longer);
        longer.set(i, longer.get(i) + d);
        state = new State(state.order, longer);
        return length;
    }

    int undo() {
        if (undoable.isEmpty()) {
            return NO;
        }
        state = undoable.pop();
        return undoable.size();
    }

    private static void orders(List<Integer> begun, int parts, List<List<Integer>> all) {
        if (begun.size() == parts) {
            all.add(new ArrayList<>(begun));
        }
        for (int i = 0; i < parts; i++) {
            if (!begun.contains(i)) {
                begun.add(i);
                orders(begun, parts, all);
                begun.remove(begun.size() - 1);
            }
        }
    }

    int order(int i) {
        if (i != -1 && !isPart(i)) {
            return BAD;
        }
        List<List<Integer>> all = new ArrayList<>();
        orders(new ArrayList<>(), sheet.parts.size(), all);
        List<Integer> best = null;
        int least = 0;
        for (List<Integer> order : all) {
            int sum = gapSum(cuts(order, sheet.z, 0));
            if (best == null || sum < least) {
                best = order;
                least = sum;
            }
        }
        return i == -1 ? least : best.get(i);
    }

    int bribes(int what) {
        if (!isYesNo(what)) {
            return BAD;
        }
        // Sums ahead of sets, both as one number: the least of these is the one that is due.
        TreeSet<Integer> found = new TreeSet<>();
        for (int set = 0; set < 1 << sheet.parts.size(); set++) {
            int sum = 0;
            for (int i = 0; i < sheet.parts.size(); i++) {
                sum += (set & 1 << i) != 0 ? sheet.parts.get(i)[2] : 0;
            }
            if (isClosed(cuts(state.order, sheet.z, set))) {
                found.add(sum * 128 + set);
            }
        }
        if (found.isEmpty()) {
            return NONE;
        }
        return what == 0 ? found.first() / 128 : found.first() % 128;
    }

    int closed(int i) {
        if (i != -1 && !isPart(i)) {
            return BAD;
        }
        int[] row = now();
        int sum = 0;
        for (int part = 0; part < row.length; part++) {
            int shorter = row[part] - reached(part).stream().mapToInt(p -> row[p]).min().getAsInt();
            if (part == i) {
                return shorter;
            }
            sum += shorter;
        }
        return sum;
    }

    private TreeSet<Integer> reached(int part) {
        TreeSet<Integer> reached = new TreeSet<>(List.of(part));
        boolean more = true;
        while (more) {
            more = false;
            for (int[] s : sheet.seams) {
                if (reached.contains(s[0]) || reached.contains(s[1])) {
                    more |= reached.add(s[0]) | reached.add(s[1]);
                }
            }
        }
        return reached;
    }

    int seen(int t, int m, int v) {
        if (!isTailor(t) || m < 10 || m > 199 || v < 1 || v > 299) {
            return BAD;
        }
        if (sightings.size() == 10) {
            return FULL;
        }
        sightings.add(new int[] {t, m, v});
        return sightings.size();
    }

    int forget() {
        int were = sightings.size();
        sightings.clear();
        return were;
    }

    int inch(int t, int what) {
        if (!isTailor(t) || !isYesNo(what)) {
            return BAD;
        }
        TreeSet<Integer> fit = new TreeSet<>();
        for (int inch = 80; inch <= 120; inch++) {
            int tried = inch;
            if (sightings.stream().allMatch(s -> s[0] != t || s[1] * tried / 100 == s[2])) {
                fit.add(inch);
            }
        }
        if (what == 0) {
            return fit.size();
        }
        return fit.isEmpty() ? NONE : fit.first();
    }

    int added(int i, int v) {
        if (!isPart(i) || v < 1 || v > 299) {
            return BAD;
        }
        int best = NONE;
        for (int slip = -9; slip <= 9; slip++) {
            if (cut(i, slip) == v && (best == NONE || Math.abs(slip) < Math.abs(best - 100))) {
                best = slip + 100;
            }
        }
        return best;
    }

    private void ways(List<Integer> begun, int[] row, List<List<Integer>> all) {
        if (begun.size() == row.length) {
            int[] used = new int[7];
            for (int i = 0; i < row.length; i++) {
                used[begun.get(i)] += row[i];
            }
            if (Arrays.stream(used).max().getAsInt() <= sheet.c) {
                all.add(new ArrayList<>(begun));
            }
            return;
        }
        int bolts = begun.stream().mapToInt(b -> b + 1).max().orElse(0);
        for (int bolt = 0; bolt <= bolts; bolt++) {
            begun.add(bolt);
            ways(begun, row, all);
            begun.remove(begun.size() - 1);
        }
    }

    int bolts(int i) {
        if (i != -1 && !isPart(i)) {
            return BAD;
        }
        List<List<Integer>> all = new ArrayList<>();
        ways(new ArrayList<>(), now(), all);
        List<Integer> best = null;
        int fewest = NONE;
        for (List<Integer> way : all) {
            int bolts = new TreeSet<>(way).size();
            if (best == null || bolts < fewest) {
                best = way;
                fewest = bolts;
            }
        }
        return best == null || i == -1 ? fewest : best.get(i);
    }

    int coat(int what) {
        if (!isYesNo(what)) {
            return BAD;
        }
        int[] row = now();
        int best = 0;
        int least = Integer.MAX_VALUE;
        for (int set = 0; set < 1 << row.length; set++) {
            int unlike = 0;
            for (int i = 0; i < row.length; i++) {
                unlike += (set & 1 << i) != 0 ? row[i] : -row[i];
            }
            if (Math.abs(unlike) < least) {
                best = set;
                least = Math.abs(unlike);
            }
        }
        return what == 0 ? best : least;
    }

    int pin(int s) {
        if (s < 0 || s >= sheet.seams.size()) {
            return BAD;
        }
        if (tailorOfSeam(s, 0) == tailorOfSeam(s, 1)) {
            return NO;
        }
        if (pins.size() == 12) {
            return FULL;
        }
        pins.add(s);
        return pins.size();
    }

    private int tailorOfSeam(int s, int side) {
        return sheet.parts.get(sheet.seams.get(s)[side])[0];
    }

    int noPins() {
        int were = pins.size();
        pins.clear();
        return were;
    }

    int thumb(int i) {
        if (i < 0) {
            return BAD;
        }
        if (i >= pins.size()) {
            return NONE;
        }
        int s = pins.get(i);
        long ahead = pins.subList(0, i).stream().filter(p -> p == s).count();
        return tailorOfSeam(s, (int) (ahead % 2));
    }

    int year(int z, int n, int what) {
        if (z < 0 || z > 999 || n < 1 || n > 100 || !isYesNo(what)) {
            return BAD;
        }
        int closing = 0;
        int gaps = 0;
        for (int i = 0; i < n; i++) {
            int[] row = cuts(state.order, (z + i) % 1000, 0);
            closing += isClosed(row) ? 1 : 0;
            gaps += gapSum(row);
        }
        return what == 0 ? closing : gaps;
    }

    int keep() {
        if (kept.size() == 2) {
            return FULL;
        }
        kept.push(state);
        return kept.size();
    }

    int back() {
        if (kept.isEmpty()) {
            return NO;
        }
        state = kept.pop();
        undoable.clear();
        return kept.size();
    }

    int count(int what) {
        int[] counts = {sheet.inches.size(), sheet.parts.size(), sheet.seams.size(),
            sightings.size(), pins.size(), undoable.size(), kept.size(), text.length()};
        return what < 0 || what > 7 ? BAD : counts[what];
    }
}
