/**
 * One suit by tailors who may not meet. The words in capitals are those of the project's document,
 * which says what each call does and answers; README.md has a short guide.
 *
 * Every row is made in a constructor and used again, so that no call makes an object.
 */
public final class SuitByTailors {
    public static final int BAD = -1, NO = -2, FULL = -3, NONE = -4;

    private static final String FIRST_TEXT = "t100;t110;p0,60,5;p1,60,5;s0,1;";
    private static final int ALL = -1;
    private static final int MOST_BYTES = 300;
    private static final int MOST_TAILORS = 6;
    private static final int MOST_PARTS = 7;
    private static final int MOST_SEAMS = 10;
    private static final int MOST_SEEN = 10;
    private static final int MOST_PINS = 12;
    private static final int MOST_UNDONE = 8;
    private static final int MOST_KEPT = 2;
    private static final int MOST_BOYS = 100;
    private static final int BOYS = 1000;
    private static final int LOWEST_INCH = 80;
    private static final int HIGHEST_INCH = 120;
    private static final int SHORTEST_TOLD = 10;
    private static final int LONGEST_TOLD = 199;
    private static final int SHORTEST = 1;
    private static final int LONGEST = 299;
    private static final int MOST_ADDED = 9;
    /** A SLIP may be below 0, and answers below 0 mean something else: it is told with this more. */
    private static final int ABOVE_SLIP = 100;

    private final Text text = new Text();
    private final Fitting fitting = new Fitting();
    private final FittingStack undoable = new FittingStack(MOST_UNDONE);
    private final FittingStack kept = new FittingStack(MOST_KEPT);
    private final Sightings sightings = new Sightings();
    private final Pins pins = new Pins();
    private final OrderSearch orderSearch = new OrderSearch();
    private final BoltSearch boltSearch = new BoltSearch();
    private final int[] lengths = new int[MOST_PARTS];
    private final int[] toldTrue = new int[MOST_PARTS];
    private final int[] toldByBoy = new int[MOST_PARTS];
    private final int[] shortest = new int[MOST_PARTS];
    private Plan plan = new Plan();
    /** A TEXT is read into this one first: one with a FAULT must leave what is LAID alone. */
    private Plan draft = new Plan();

    public SuitByTailors() {
        for (int i = 0; i < FIRST_TEXT.length(); i++) {
            text.append(FIRST_TEXT.charAt(i));
        }
        text.readInto(plan);
        text.length = 0;
    }

    // ---- suits

    public int write(int n, long v) {
        if (n < 1 || n > 8) {
            return BAD;
        }
        if (text.length + n > MOST_BYTES) {
            return FULL;
        }
        for (int i = n - 1; i >= 0; i--) {
            text.append((int) (v >>> (8 * i)));
        }
        return text.length;
    }

    public int wipe() {
        int was = text.length;
        text.length = 0;
        return was;
    }

    public int fault() {
        return text.readInto(draft);
    }

    public int lay() {
        if (text.readInto(draft) != NONE || draft.parts == 0) {
            return NO;
        }
        Plan old = plan;
        plan = draft;
        draft = old;
        fitting.startAnew();
        undoable.clear();
        kept.clear();
        sightings.size = 0;
        pins.size = 0;
        orderSearch.known = false;
        return plan.parts;
    }

    public int part(int i, int what) {
        if (!plan.hasPart(i)) {
            return BAD;
        }
        switch (what) {
            case 0: return plan.tailorOf[i];
            case 1: return plan.lengthOf[i];
            case 2: return plan.bribeFor[i];
            case 3: return fitting.placeOf(i);
            case 4: return slipNow(i) + ABOVE_SLIP;
            case 5: return plan.cutLength(i, slipNow(i));
            case 6: return lengthNow(i);
            default: return BAD;
        }
    }

    public int gap(int s) {
        if (s != ALL && !plan.hasSeam(s)) {
            return BAD;
        }
        measureNow();
        return s == ALL ? plan.sumOfGaps(lengths) : plan.gapOf(s, lengths);
    }

    public int closes() {
        measureNow();
        return plan.isClosedBy(lengths) ? 1 : 0;
    }

    // ---- fittings

    public int change(int a, int b) {
        if (!plan.hasPart(a) || !plan.hasPart(b) || a == b) {
            return BAD;
        }
        undoable.push(fitting);
        fitting.swapPlaces(a, b);
        measureNow();
        return plan.sumOfGaps(lengths);
    }

    public int alter(int i, int d) {
        if (!plan.hasPart(i) || d < -9 || d > 9) {
            return BAD;
        }
        int length = lengthNow(i) + d;
        if (length < SHORTEST || length > LONGEST) {
            return NO;
        }
        undoable.push(fitting);
        fitting.longerBy[i] += d;
        return length;
    }

    public int undo() {
        if (undoable.size == 0) {
            return NO;
        }
        undoable.popInto(fitting);
        return undoable.size;
    }

    // ---- orders, bribes

    public int order(int i) {
        if (i != ALL && !plan.hasPart(i)) {
            return BAD;
        }
        if (!orderSearch.known) {
            orderSearch.search(plan);
        }
        return i == ALL ? orderSearch.leastSum : orderSearch.best[i];
    }

    public int bribes(int what) {
        if (what != 0 && what != 1) {
            return BAD;
        }
        for (int i = 0; i < plan.parts; i++) {
            toldTrue[i] = plan.cutLength(i, 0);
            toldByBoy[i] = plan.cutLength(i, slipNow(i));
        }
        int bestSet = NONE;
        int bestSum = NONE;
        for (int set = 0; set < 1 << plan.parts; set++) {
            int sum = plan.sumOfSet(plan.bribeFor, set);
            if ((bestSet == NONE || sum < bestSum) && isClosedByBribing(set)) {
                bestSet = set;
                bestSum = sum;
            }
        }
        return what == 0 ? bestSum : bestSet;
    }

    public int closed(int i) {
        if (i != ALL && !plan.hasPart(i)) {
            return BAD;
        }
        measureNow();
        levelSeams();
        if (i != ALL) {
            return lengths[i] - shortest[i];
        }
        int sum = 0;
        for (int j = 0; j < plan.parts; j++) {
            sum += lengths[j] - shortest[j];
        }
        return sum;
    }

    // ---- inches, slips

    public int seen(int t, int m, int v) {
        if (!plan.hasTailor(t) || m < SHORTEST_TOLD || m > LONGEST_TOLD || !isLength(v)) {
            return BAD;
        }
        if (sightings.size >= MOST_SEEN) {
            return FULL;
        }
        sightings.add(t, m, v);
        return sightings.size;
    }

    public int forget() {
        int were = sightings.size;
        sightings.size = 0;
        return were;
    }

    public int inch(int t, int what) {
        if (!plan.hasTailor(t) || (what != 0 && what != 1)) {
            return BAD;
        }
        int many = 0;
        int lowest = NONE;
        for (int tried = HIGHEST_INCH; tried >= LOWEST_INCH; tried--) {
            if (sightings.agreeWith(t, tried)) {
                many++;
                lowest = tried;
            }
        }
        return what == 0 ? many : lowest;
    }

    public int added(int i, int v) {
        if (!plan.hasPart(i) || !isLength(v)) {
            return BAD;
        }
        for (int far = 0; far <= MOST_ADDED; far++) {
            if (plan.cutLength(i, -far) == v) {
                return ABOVE_SLIP - far;
            }
            if (plan.cutLength(i, far) == v) {
                return ABOVE_SLIP + far;
            }
        }
        return NONE;
    }

    // ---- cloth, coats

    public int bolts(int i) {
        if (i != ALL && !plan.hasPart(i)) {
            return BAD;
        }
        measureNow();
        int fewest = boltSearch.search(plan, lengths);
        return i == ALL || fewest == NONE ? fewest : boltSearch.boltOf[i];
    }

    public int coat(int what) {
        if (what != 0 && what != 1) {
            return BAD;
        }
        measureNow();
        int everything = (1 << plan.parts) - 1;
        int all = plan.sumOfSet(lengths, everything);
        int bestSet = 0;
        int leastUnlike = all;
        for (int set = 1; set <= everything; set++) {
            int one = plan.sumOfSet(lengths, set);
            int unlike = Math.abs(all - one - one);
            if (unlike < leastUnlike) {
                bestSet = set;
                leastUnlike = unlike;
            }
        }
        return what == 0 ? bestSet : leastUnlike;
    }

    // ---- pins, years

    public int pin(int s) {
        if (!plan.hasSeam(s)) {
            return BAD;
        }
        int tailor = plan.tailorOf[plan.firstOf[s]];
        int other = plan.tailorOf[plan.secondOf[s]];
        if (tailor == other) {
            return NO;
        }
        if (pins.size >= MOST_PINS) {
            return FULL;
        }
        pins.add(s, pins.countIn(s) % 2 == 0 ? tailor : other);
        return pins.size;
    }

    public int noPins() {
        int were = pins.size;
        pins.size = 0;
        return were;
    }

    public int thumb(int i) {
        if (i < 0) {
            return BAD;
        }
        return i < pins.size ? pins.tailorOf[i] : NONE;
    }

    public int year(int z, int n, int what) {
        if (z < 0 || z >= BOYS || n < 1 || n > MOST_BOYS || (what != 0 && what != 1)) {
            return BAD;
        }
        int closing = 0;
        int gaps = 0;
        for (int boy = z; boy < z + n; boy++) {
            cutByBoy(boy % BOYS);
            closing += plan.isClosedBy(toldByBoy) ? 1 : 0;
            gaps += plan.sumOfGaps(toldByBoy);
        }
        return what == 0 ? closing : gaps;
    }

    public int keep() {
        if (kept.size >= MOST_KEPT) {
            return FULL;
        }
        kept.push(fitting);
        return kept.size;
    }

    public int back() {
        if (kept.size == 0) {
            return NO;
        }
        kept.popInto(fitting);
        undoable.clear();
        return kept.size;
    }

    public int count(int what) {
        switch (what) {
            case 0: return plan.tailors;
            case 1: return plan.parts;
            case 2: return plan.seams;
            case 3: return sightings.size;
            case 4: return pins.size;
            case 5: return undoable.size;
            case 6: return kept.size;
            case 7: return text.length;
            default: return BAD;
        }
    }

    // ---- helpers

    private static boolean isLength(int v) {
        return v >= SHORTEST && v <= LONGEST;
    }

    private int slipNow(int part) {
        return Plan.slip(part, fitting.placeOf(part), plan.boy);
    }

    private int lengthNow(int part) {
        return plan.cutLength(part, slipNow(part)) + fitting.longerBy[part];
    }

    private void measureNow() {
        for (int i = 0; i < plan.parts; i++) {
            lengths[i] = lengthNow(i);
        }
    }

    private void cutByBoy(int boy) {
        for (int i = 0; i < plan.parts; i++) {
            toldByBoy[i] = plan.cutLength(i, Plan.slip(i, fitting.placeOf(i), boy));
        }
    }

    private boolean isClosedByBribing(int set) {
        for (int i = 0; i < plan.parts; i++) {
            lengths[i] = (set >> i & 1) == 1 ? toldTrue[i] : toldByBoy[i];
        }
        return plan.isClosedBy(lengths);
    }

    /**
     * PARTS that SEAMS lead to from one another end as long as the shortest of them. A shortest
     * length goes over one SEAM more each time, so one time less than there are PARTS is enough.
     */
    private void levelSeams() {
        for (int i = 0; i < plan.parts; i++) {
            shortest[i] = lengths[i];
        }
        for (int time = 1; time < plan.parts; time++) {
            for (int s = 0; s < plan.seams; s++) {
                int least = Math.min(shortest[plan.firstOf[s]], shortest[plan.secondOf[s]]);
                shortest[plan.firstOf[s]] = least;
                shortest[plan.secondOf[s]] = least;
            }
        }
    }

    /** THE TEXT. */
    private static final class Text {
        private static final int MOST_NUMBERS = 3;
        private static final int MOST_FIGURES = 3;
        private static final int NOWHERE = -1;

        final byte[] bytes = new byte[MOST_BYTES];
        final int[] numbers = new int[MOST_NUMBERS];
        int length = 0;

        void append(int b) {
            if (length < MOST_BYTES) {
                bytes[length] = (byte) b;
                length++;
            }
        }

        /** Fills the plan up to the FAULT: where that is, or NONE. */
        int readInto(Plan plan) {
            plan.clear();
            int at = 0;
            for (int item = 0; item < MOST_BYTES && at < length; item++) {
                int letter = byteAt(at);
                int behind = readItem(at, numbersBehind(letter));
                if (behind == NOWHERE || !plan.takes(letter, numbers)) {
                    return at;
                }
                at = behind;
            }
            return NONE;
        }

        private static int numbersBehind(int letter) {
            switch (letter) {
                case 't':
                case 'g':
                case 'z':
                case 'c': return 1;
                case 's': return 2;
                case 'p': return 3;
                default: return 0;
            }
        }

        /** Reads an ITEM's numbers: the place behind the ITEM, or NOWHERE. */
        private int readItem(int from, int many) {
            if (many == 0) {
                return NOWHERE;
            }
            int at = from + 1;
            for (int i = 0; i < many; i++) {
                at = readNumber(at, i);
                if (at == NOWHERE || byteAt(at) != (i + 1 < many ? ',' : ';')) {
                    return NOWHERE;
                }
                at++;
            }
            return at;
        }

        /** Reads the which-th number of an ITEM: the place behind its figures, or NOWHERE. */
        private int readNumber(int from, int which) {
            int at = from;
            int number = 0;
            while (at < from + MOST_FIGURES && byteAt(at) >= '0' && byteAt(at) <= '9') {
                number = 10 * number + byteAt(at) - '0';
                at++;
            }
            if (at == from || which < 0 || which >= MOST_NUMBERS) {
                return NOWHERE;
            }
            numbers[which] = number;
            return at;
        }

        private int byteAt(int at) {
            return at >= 0 && at < length ? bytes[at] & 255 : NOWHERE;
        }
    }

    /** What a TEXT tells. */
    private static final class Plan {
        final int[] inches = new int[MOST_TAILORS];
        final int[] tailorOf = new int[MOST_PARTS];
        final int[] lengthOf = new int[MOST_PARTS];
        final int[] bribeFor = new int[MOST_PARTS];
        final int[] firstOf = new int[MOST_SEAMS];
        final int[] secondOf = new int[MOST_SEAMS];
        int tailors;
        int parts;
        int seams;
        int widestGap;
        int boy;
        int boltLength;

        void clear() {
            tailors = 0;
            parts = 0;
            seams = 0;
            widestGap = 1;
            boy = 0;
            boltLength = 300;
        }

        boolean hasTailor(int t) {
            return t >= 0 && t < tailors;
        }

        boolean hasPart(int i) {
            return i >= 0 && i < parts;
        }

        boolean hasSeam(int s) {
            return s >= 0 && s < seams;
        }

        /** Whether an ITEM of this letter may have these numbers here; it is told then. */
        boolean takes(int letter, int[] numbers) {
            switch (letter) {
                case 't': return takesTailor(numbers[0]);
                case 'p': return takesPart(numbers[0], numbers[1], numbers[2]);
                case 's': return takesSeam(numbers[0], numbers[1]);
                case 'g': return takesGap(numbers[0]);
                case 'z': return takesBoy(numbers[0]);
                case 'c': return takesBolt(numbers[0]);
                default: return false;
            }
        }

        private boolean takesTailor(int inch) {
            if (tailors >= MOST_TAILORS || inch < LOWEST_INCH || inch > HIGHEST_INCH) {
                return false;
            }
            inches[tailors] = inch;
            tailors++;
            return true;
        }

        private boolean takesPart(int tailor, int length, int bribe) {
            if (parts >= MOST_PARTS || !hasTailor(tailor)
                    || length < SHORTEST_TOLD || length > LONGEST_TOLD || bribe > 99) {
                return false;
            }
            tailorOf[parts] = tailor;
            lengthOf[parts] = length;
            bribeFor[parts] = bribe;
            parts++;
            return true;
        }

        private boolean takesSeam(int first, int second) {
            if (seams >= MOST_SEAMS || !hasPart(first) || !hasPart(second) || first == second) {
                return false;
            }
            firstOf[seams] = first;
            secondOf[seams] = second;
            seams++;
            return true;
        }

        private boolean takesGap(int widest) {
            if (widest > 20) {
                return false;
            }
            widestGap = widest;
            return true;
        }

        private boolean takesBoy(int z) {
            if (z >= BOYS) {
                return false;
            }
            boy = z;
            return true;
        }

        private boolean takesBolt(int length) {
            if (length < 1) {
                return false;
            }
            boltLength = length;
            return true;
        }

        /** The SLIP by which this boy tells a PART wrong that is MEASURED as the k-th. */
        static int slip(int part, int k, int z) {
            long x = 7919L * z + 6151L * part + 3571L * k + 1;
            int most = Math.max(0, Math.min(k, 5));
            return (int) (x * x % 65521 % (2 * most + 1)) - most;
        }

        int cutLength(int part, int slip) {
            return byInch(lengthOf[part] + slip, inches[tailorOf[part]]);
        }

        static int byInch(int told, int inch) {
            return told * inch / 100;
        }

        int gapOf(int seam, int[] row) {
            return Math.abs(row[firstOf[seam]] - row[secondOf[seam]]);
        }

        int sumOfGaps(int[] row) {
            int sum = 0;
            for (int s = 0; s < seams; s++) {
                sum += gapOf(s, row);
            }
            return sum;
        }

        boolean isClosedBy(int[] row) {
            for (int s = 0; s < seams; s++) {
                if (gapOf(s, row) > widestGap) {
                    return false;
                }
            }
            return true;
        }

        int sumOfSet(int[] row, int set) {
            int sum = 0;
            for (int i = 0; i < parts; i++) {
                sum += (set >> i & 1) == 1 ? row[i] : 0;
            }
            return sum;
        }
    }

    /** The order in which PARTS are MEASURED, and by how much they were made longer. */
    private static final class Fitting {
        final int[] partAt = new int[MOST_PARTS];
        final int[] longerBy = new int[MOST_PARTS];

        Fitting() {
            startAnew();
        }

        void startAnew() {
            for (int i = 0; i < MOST_PARTS; i++) {
                partAt[i] = i;
                longerBy[i] = 0;
            }
        }

        int placeOf(int part) {
            for (int k = 0; k < MOST_PARTS; k++) {
                if (partAt[k] == part) {
                    return k;
                }
            }
            return 0;
        }

        /** All PARTS are CUT anew then: what was made longer is lost. */
        void swapPlaces(int a, int b) {
            int part = partAt[a];
            partAt[a] = partAt[b];
            partAt[b] = part;
            for (int i = 0; i < MOST_PARTS; i++) {
                longerBy[i] = 0;
            }
        }
    }

    /** Fittings that can be had back, the last one first; the oldest is lost if one is too many. */
    private static final class FittingStack {
        final int most;
        final int[] partAt;
        final int[] longerBy;
        int size = 0;
        private int next = 0;

        FittingStack(int atMost) {
            most = Math.max(1, atMost);
            partAt = new int[most * MOST_PARTS];
            longerBy = new int[most * MOST_PARTS];
        }

        void clear() {
            size = 0;
        }

        void push(Fitting fitting) {
            for (int i = 0; i < MOST_PARTS; i++) {
                partAt[next * MOST_PARTS + i] = fitting.partAt[i];
                longerBy[next * MOST_PARTS + i] = fitting.longerBy[i];
            }
            next = next + 1 < most ? next + 1 : 0;
            size = Math.min(size + 1, most);
        }

        void popInto(Fitting fitting) {
            if (size == 0) {
                return;
            }
            size--;
            next = next > 0 ? next - 1 : most - 1;
            for (int i = 0; i < MOST_PARTS; i++) {
                fitting.partAt[i] = partAt[next * MOST_PARTS + i];
                fitting.longerBy[i] = longerBy[next * MOST_PARTS + i];
            }
        }
    }

    /** What was SEEN. */
    private static final class Sightings {
        final int[] tailorOf = new int[MOST_SEEN];
        final int[] toldOf = new int[MOST_SEEN];
        final int[] cutOf = new int[MOST_SEEN];
        int size = 0;

        void add(int tailor, int told, int cut) {
            if (size < MOST_SEEN) {
                tailorOf[size] = tailor;
                toldOf[size] = told;
                cutOf[size] = cut;
                size++;
            }
        }

        boolean agreeWith(int tailor, int inch) {
            for (int i = 0; i < size; i++) {
                if (tailorOf[i] == tailor && Plan.byInch(toldOf[i], inch) != cutOf[i]) {
                    return false;
                }
            }
            return true;
        }
    }

    /** PINS, each with the TAILOR whose thumb put it. */
    private static final class Pins {
        final int[] seamOf = new int[MOST_PINS];
        final int[] tailorOf = new int[MOST_PINS];
        int size = 0;

        void add(int seam, int tailor) {
            if (size < MOST_PINS) {
                seamOf[size] = seam;
                tailorOf[size] = tailor;
                size++;
            }
        }

        int countIn(int seam) {
            int many = 0;
            for (int i = 0; i < size; i++) {
                many += seamOf[i] == seam ? 1 : 0;
            }
            return many;
        }
    }

    /**
     * ORDER. Orders are tried as they come, PART by PART, and left where their GAPS so far are no
     * less than the least: so the first of several of one sum stays. Only lay() makes it another,
     * so what was found is known until then.
     */
    private static final class OrderSearch {
        private static final int MORE_THAN_ALL_GAPS = MOST_SEAMS * LONGEST + 1;

        final int[] best = new int[MOST_PARTS];
        boolean known = false;
        int leastSum = 0;
        private final int[] tried = new int[MOST_PARTS];
        private final int[] row = new int[MOST_PARTS];
        private int placed = 0;

        void search(Plan plan) {
            leastSum = MORE_THAN_ALL_GAPS;
            placed = 0;
            tryPlace(plan, 0, 0);
            known = true;
        }

        private void tryPlace(Plan plan, int k, int gaps) {
            if (k >= plan.parts) {
                leastSum = gaps;
                for (int i = 0; i < plan.parts; i++) {
                    best[i] = tried[i];
                }
                return;
            }
            for (int part = 0; part < plan.parts; part++) {
                if (!isPlaced(part)) {
                    tryPart(plan, part, k, gaps);
                }
            }
        }

        private void tryPart(Plan plan, int part, int k, int gaps) {
            tried[k] = part;
            row[part] = plan.cutLength(part, Plan.slip(part, k, plan.boy));
            int sum = gaps + gapsWithPlaced(plan, part);
            if (sum < leastSum) {
                placed |= 1 << part;
                tryPlace(plan, k + 1, sum);
                placed &= ~(1 << part);
            }
        }

        private int gapsWithPlaced(Plan plan, int part) {
            int sum = 0;
            for (int s = 0; s < plan.seams; s++) {
                int first = plan.firstOf[s];
                int second = plan.secondOf[s];
                if (first == part && isPlaced(second) || second == part && isPlaced(first)) {
                    sum += plan.gapOf(s, row);
                }
            }
            return sum;
        }

        private boolean isPlaced(int part) {
            return (placed >> part & 1) == 1;
        }
    }

    /**
     * BOLTS. Ways of 1 bolt at most are tried, then of 2, ..: the first way found is one of fewest
     * bolts, and as ways are tried as they come, it is the first of these.
     */
    private static final class BoltSearch {
        final int[] boltOf = new int[MOST_PARTS];
        /** All 0 ahead of a search and behind it: a PART that was tried is taken off again. */
        private final int[] filled = new int[MOST_PARTS];
        private int most = 0;

        /** How many bolts, or NONE. */
        int search(Plan plan, int[] lengths) {
            for (int bolts = 1; bolts <= plan.parts; bolts++) {
                most = bolts;
                if (findsBolts(plan, lengths, 0, 0)) {
                    return bolts;
                }
            }
            return NONE;
        }

        /** Whether this PART and those behind it can be had, so many bolts being begun. */
        private boolean findsBolts(Plan plan, int[] lengths, int part, int begun) {
            if (part >= plan.parts) {
                return true;
            }
            for (int bolt = 0; bolt <= begun && bolt < most; bolt++) {
                boltOf[part] = bolt;
                if (findsRest(plan, lengths, part, begun)) {
                    return true;
                }
            }
            return false;
        }

        /** The same, this PART's bolt being chosen. */
        private boolean findsRest(Plan plan, int[] lengths, int part, int begun) {
            int bolt = boltOf[part];
            if (filled[bolt] + lengths[part] > plan.boltLength) {
                return false;
            }
            filled[bolt] += lengths[part];
            boolean found = findsBolts(plan, lengths, part + 1, Math.max(begun, bolt + 1));
            filled[bolt] -= lengths[part];
            return found;
        }
    }
}
