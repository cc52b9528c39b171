/** The boundary cases of promises 12 to 14: order, bribes, closed. */
public final class OrdersBoundaryTest {
    private static final int BAD = Boundaries.BAD;
    private static final int NONE = Boundaries.NONE;

    /** What promise12OfAll5040 tells: INCH and L of each PART, the SEAMS, SLIPS by boy, PART, place. */
    private static final int[][] TOLD = {{100, 70}, {97, 72}, {104, 67}, {100, 70}, {97, 71}, {104, 66}, {100, 69}};
    private static final int[][] SEAMS = {{0, 1}, {1, 2}, {2, 3}, {3, 4}, {4, 5}, {5, 6}, {6, 0},
        {0, 2}, {1, 4}, {3, 6}};
    private static final int[][][] SLIPS = slips();

    private OrdersBoundaryTest() { }

    private static void due(String call, Object got, Object want) {
        Boundaries.due(call, got, want);
    }

    /** The first boy by whom these PARTS, each MEASURED as its own number says, slip just so. */
    private static int boyOf(int[] parts, int[] slips) {
        for (int z = 0; z < 1000; z++) {
            boolean found = true;
            for (int i = 0; i < parts.length; i++) {
                found &= Boundaries.slip(parts[i], parts[i], z) == slips[i];
            }
            if (found) {
                return z;
            }
        }
        throw new IllegalStateException("no such boy");
    }

    /** The first boy by whom all PARTS but the first slip. */
    private static int boyOfSlipsAll() {
        for (int z = 0; z < 1000; z++) {
            int many = 0;
            for (int i = 1; i < 7; i++) {
                many += Boundaries.slip(i, i, z) != 0 ? 1 : 0;
            }
            if (many == 6) {
                return z;
            }
        }
        throw new IllegalStateException("no such boy");
    }

    // ---- 12: order

    static void promise12PlacesThatThereAre() {
        for (int parts = 1; parts <= 7; parts++) {
            SuitByTailors x = Checks.laid("t100;" + "p0,50,3;".repeat(parts) + (parts > 1 ? "s0,1;" : "") + "z77;");
            due("the sum of " + parts, x.order(-1) >= 0, true);
            int all = 0;
            for (int i = 0; i < parts; i++) {
                all |= 1 << x.order(i);
            }
            due("each of " + parts + " once", all, (1 << parts) - 1);
            for (int i : Boundaries.outside(-1, parts - 1)) {
                due("order(" + i + ") of " + parts, x.order(i), BAD);
            }
        }
        for (int i : Boundaries.outside(-1, 6)) {
            Boundaries.unchanged("order(" + i + ")", Boundaries::full, x -> x.order(i), BAD);
        }
        for (int i : Boundaries.outside(-1, 2)) {
            Boundaries.unchanged("order(" + i + ")", Boundaries::some, x -> x.order(i), BAD);
        }
    }

    static void promise12OnePart() {
        SuitByTailors x = Checks.laid("t100;p0,50,3;");
        due("the sum", x.order(-1), 0);
        due("the PART", x.order(0), 0);
    }

    static void promise12TheFirstOfSeveral() {
        int[] seen = new int[3];
        for (int z = 0; z < 1000; z++) {
            int first = Math.abs(Boundaries.slip(1, 1, z));
            int second = Math.abs(Boundaries.slip(0, 1, z));
            SuitByTailors x = Checks.laid("t100;p0,50,3;p0,50,3;s0,1;z" + z + ";");
            due("the sum by " + z, x.order(-1), Math.min(first, second));
            due("the first PART by " + z, x.order(0), first <= second ? 0 : 1);
            due("the second PART by " + z, x.order(1), first <= second ? 1 : 0);
            seen[Integer.compare(first, second) + 1]++;
        }
        due("less, as much, more", seen[0] > 0 && seen[1] > 0 && seen[2] > 0, true);
    }

    static void promise12NoSeams() {
        SuitByTailors x = Checks.laid("t100;" + "p0,50,3;".repeat(7) + "z999;");
        x.change(0, 6);
        due("the sum", x.order(-1), 0);
        for (int i = 0; i < 7; i++) {
            due("order(" + i + ")", x.order(i), i);
        }
    }

    static void promise12OfAll5040() {
        String text = "t100;t97;t104;p0,70,1;p1,72,1;p2,67,1;p0,70,1;p1,71,1;p2,66,1;p0,69,1;"
                + "s0,1;s1,2;s2,3;s3,4;s4,5;s5,6;s6,0;s0,2;s1,4;s3,6;z";
        for (int z = 0; z < 1000; z += 111) {
            orderOf(text + z + ";", z);
        }
    }

    /** All numbers of seven figures 0 to 6, the orders among them, as they come. */
    private static void orderOf(String text, int z) {
        int least = Boundaries.HIGH;
        int best = 0;
        for (int number = 0; number < 823543; number++) {
            int used = 0;
            int rest = number;
            int[] lengths = new int[7];
            for (int k = 6; k >= 0; k--) {
                int part = rest % 7;
                rest /= 7;
                used |= 1 << part;
                if (Integer.bitCount(used) != 7 - k) {
                    break;
                }
                lengths[part] = (TOLD[part][1] + SLIPS[z / 111][part][k]) * TOLD[part][0] / 100;
            }
            if (used != 127) {
                continue;
            }
            int sum = 0;
            for (int[] s : SEAMS) {
                sum += Math.abs(lengths[s[0]] - lengths[s[1]]);
            }
            if (sum < least) {
                least = sum;
                best = number;
            }
        }
        SuitByTailors x = Checks.laid(text);
        due("the sum by " + z, x.order(-1), least);
        for (int k = 6; k >= 0; k--) {
            due("order(" + k + ") by " + z, x.order(k), best % 7);
            best /= 7;
        }
    }

    private static int[][][] slips() {
        int[][][] slips = new int[10][7][7];
        for (int boy = 0; boy < 10; boy++) {
            for (int part = 0; part < 7; part++) {
                for (int k = 0; k < 7; k++) {
                    slips[boy][part][k] = Boundaries.slip(part, k, 111 * boy);
                }
            }
        }
        return slips;
    }

    static void promise12AnewWhenLaidAnew() {
        SuitByTailors x = new SuitByTailors();
        due("at first", x.order(-1), 5);
        due("at first", x.order(0), 1);
        due("nothing to lay", x.lay(), Boundaries.NO);
        due("as at first", x.order(-1), 5);
        Checks.tell(x, "t100;p0,50,3;p0,80,3;p0,50,3;g0;");
        x.lay();
        due("no SEAMS", x.order(-1), 0);
        for (int i = 0; i < 3; i++) {
            due("as they come: " + i, x.order(i), i);
        }
        due("no fourth", x.order(3), BAD);
    }

    static void promise12GapsAsWideAsCanBe() {
        // One as short as can be CUT, one as long, ten SEAMS of the two: no boy brings them near.
        SuitByTailors x = Checks.laid("t80;t120;p0,10,3;p1,199,3;" + "s0,1;".repeat(10) + "z999;");
        int first = (199 + Boundaries.slip(1, 1, 999)) * 120 / 100 - 8;
        int second = 238 - (10 + Boundaries.slip(0, 1, 999)) * 80 / 100;
        due("the sum", x.order(-1), 10 * Math.min(first, second));
        due("the first PART", x.order(0), first <= second ? 0 : 1);
    }

    static void promise12ChangesNothing() {
        SuitByTailors x = Boundaries.some();
        SuitByTailors anew = Checks.laid(Boundaries.SMALL);
        due("whatever was made longer", x.order(-1), anew.order(-1));
        for (int i = 0; i < 3; i++) {
            int place = i;
            Boundaries.unchanged("order(" + i + ")", Boundaries::some, y -> y.order(place), anew.order(i));
        }
    }

    // ---- 13: bribes

    static void promise13WhatIs0Or1() {
        for (int what : Boundaries.outside(0, 1)) {
            Boundaries.unchanged("bribes(" + what + ")", Boundaries::some, x -> x.bribes(what), BAD);
        }
        Boundaries.unchanged("bribes(2)", Boundaries::full, x -> x.bribes(2), BAD);
    }

    static void promise13BadAheadOfNone() {
        Boundaries.unchanged("none", SuitByTailors::new, x -> x.bribes(0), NONE);
        Boundaries.unchanged("none", SuitByTailors::new, x -> x.bribes(1), NONE);
        for (int what : Boundaries.outside(0, 1)) {
            Boundaries.unchanged("bribes(" + what + ")", SuitByTailors::new, x -> x.bribes(what), BAD);
        }
    }

    static void promise13NobodyIsBribed() {
        SuitByTailors one = Checks.laid("t100;p0,50,99;");
        due("one PART", one.bribes(0), 0);
        due("one PART", one.bribes(1), 0);
        SuitByTailors wide = Checks.laid("t100;" + "p0,50,0;".repeat(7) + "s0,6;s5,6;g20;z123;");
        due("closes without", wide.bribes(0), 0);
        due("closes without", wide.bribes(1), 0);
    }

    static void promise13AllButTheFirstAreBribed() {
        int z = boyOfSlipsAll();
        SuitByTailors x = Checks.laid("t100;" + "p0,50,99;".repeat(7) + "s0,1;s0,2;s0,3;s0,4;s0,5;s0,6;g0;z" + z + ";");
        due("six times 99", x.bribes(0), 594);
        due("all but the first", x.bribes(1), 126);
        SuitByTailors free = Checks.laid("t100;" + "p0,50,0;".repeat(7) + "s0,1;s0,2;s0,3;s0,4;s0,5;s0,6;g0;z" + z + ";");
        due("for nothing", free.bribes(0), 0);
        due("the lowest set", free.bribes(1), 126);
    }

    static void promise13TheCheapestThenTheLowest() {
        // Both slip, one by 1 and one by -1, and a gap of 1 closes: either bribe is enough.
        int z = boyOf(new int[] {1, 2}, new int[] {1, -1});
        int[][] bribes = {{7, 7, 2}, {7, 8, 2}, {8, 7, 4}, {0, 0, 2}, {0, 99, 2}, {99, 0, 4}, {99, 99, 2}};
        for (int[] b : bribes) {
            SuitByTailors x = Checks.laid("t100;p0,50,0;p0,50," + b[0] + ";p0,50," + b[1] + ";s1,2;g1;z" + z + ";");
            due("the sum by " + b[0] + " and " + b[1], x.bribes(0), Math.min(b[0], b[1]));
            due("the set by " + b[0] + " and " + b[1], x.bribes(1), b[2]);
        }
        SuitByTailors both = Checks.laid("t100;p0,50,0;p0,50,7;p0,50,8;s1,2;g0;z" + z + ";");
        due("both by a gap of 0", both.bribes(0), 15);
        due("both by a gap of 0", both.bribes(1), 6);
        SuitByTailors wide = Checks.laid("t100;p0,50,0;p0,50,7;p0,50,8;s1,2;g2;z" + z + ";");
        due("none by a gap of 2", wide.bribes(1), 0);
    }

    static void promise13OneDearIsMoreThanTwoCheap() {
        // Of 3 slips 1, 1 and none is the middle one dear: the set of most bits can be the cheapest.
        int z = boyOf(new int[] {1, 2, 3}, new int[] {1, 1, 0});
        SuitByTailors x = Checks.laid("t100;p0,50,0;p0,50,50;p0,50,49;p0,50,98;s1,2;s2,3;s0,1;g0;z" + z + ";");
        due("the sum", x.bribes(0), 99);
        due("the set", x.bribes(1), 6);
    }

    static void promise13JustG() {
        int z = boyOf(new int[] {1}, new int[] {0});
        for (int g = 0; g <= 20; g++) {
            SuitByTailors just = Checks.laid("t100;p0,50,3;p0," + (50 + g) + ",3;s0,1;g" + g + ";z" + z + ";");
            due("just " + g, just.bribes(0), 0);
            SuitByTailors above = Checks.laid("t100;p0,50,3;p0," + (51 + g) + ",3;s0,1;g" + g + ";z" + z + ";");
            due("1 above " + g, above.bribes(0), NONE);
        }
    }

    static void promise13AsItWouldBeCut() {
        SuitByTailors x = new SuitByTailors();
        Boundaries.makeLong(x, 1, 60);
        due("closes now", x.closes(), 1);
        due("but not as CUT", x.bribes(0), NONE);
    }

    static void promise13InTheOrderThatIs() {
        int z = boyOfSlipsAll();
        for (int first = 0; first < 7; first++) {
            SuitByTailors x = Checks.laid("t100;" + "p0,50,9;".repeat(7)
                    + "s0,1;s0,2;s0,3;s0,4;s0,5;s0,6;g0;z" + z + ";");
            if (first > 0) {
                x.change(0, first);
            }
            // Seams with PART 0 all: all have to be told alike.
            int[] slips = new int[7];
            for (int i = 0; i < 7; i++) {
                slips[i] = x.part(i, 4) - 100;
            }
            int best = 127;
            for (int set = 127; set >= 0; set--) {
                if (areToldAlike(slips, set) && Integer.bitCount(set) <= Integer.bitCount(best)) {
                    best = set;
                }
            }
            due("the set, " + first + " first", x.bribes(1), best);
            due("the sum, " + first + " first", x.bribes(0), 9 * Integer.bitCount(best));
        }
    }

    private static boolean areToldAlike(int[] slips, int set) {
        int told = (set & 1) != 0 ? 0 : slips[0];
        for (int i = 1; i < 7; i++) {
            if (((set >> i & 1) != 0 ? 0 : slips[i]) != told) {
                return false;
            }
        }
        return true;
    }

    // ---- 14: closed

    static void promise14PartsThatThereAre() {
        for (int parts = 1; parts <= 7; parts++) {
            SuitByTailors x = Checks.laid("t100;" + "p0,50,3;".repeat(parts));
            due("no SEAMS", x.closed(-1), 0);
            due("the last of " + parts, x.closed(parts - 1), 0);
            for (int i : Boundaries.outside(-1, parts - 1)) {
                due("closed(" + i + ") of " + parts, x.closed(i), BAD);
            }
        }
        for (int i : Boundaries.outside(-1, 6)) {
            Boundaries.unchanged("closed(" + i + ")", Boundaries::full, x -> x.closed(i), BAD);
        }
        for (int i : Boundaries.outside(-1, 2)) {
            Boundaries.unchanged("closed(" + i + ")", Boundaries::some, x -> x.closed(i), BAD);
        }
    }

    static void promise14From0To298() {
        closedBy("s0,1;", new int[] {1, 299}, new int[] {0, 298});
        closedBy("s1,0;", new int[] {299, 1}, new int[] {298, 0});
        closedBy("s0,1;", new int[] {150, 150}, new int[] {0, 0});
        closedBy("s0,1;", new int[] {150, 151}, new int[] {0, 1});
        closedBy("s0,1;g20;", new int[] {60, 80}, new int[] {0, 20});
        closedBy("", new int[] {1, 299}, new int[] {0, 0});
        closedBy("s0,1;s1,2;", new int[] {299, 299, 1}, new int[] {298, 298, 0});
    }

    private static void closedBy(String items, int[] lengths, int[] shorter) {
        SuitByTailors x = Boundaries.ofLengths(items, lengths);
        int sum = 0;
        for (int i = 0; i < lengths.length; i++) {
            due(items + " PART " + i, x.closed(i), shorter[i]);
            sum += shorter[i];
        }
        due(items + " all", x.closed(-1), sum);
        due(items + " as long as before", x.part(0, 6), lengths[0]);
    }

    static void promise14FromEndToEndOfSeven() {
        int[] down = {56, 55, 54, 53, 52, 51, 50};
        int[] up = {50, 51, 52, 53, 54, 55, 56};
        int[] byDown = {6, 5, 4, 3, 2, 1, 0};
        int[] byUp = {0, 1, 2, 3, 4, 5, 6};
        String forth = "s0,1;s1,2;s2,3;s3,4;s4,5;s5,6;";
        String aback = "s5,6;s4,5;s3,4;s2,3;s1,2;s0,1;";
        String turned = "s6,5;s5,4;s4,3;s3,2;s2,1;s1,0;";
        String[] chains = {forth, aback, turned};
        for (String chain : chains) {
            closedBy(chain, down, byDown);
            closedBy(chain, up, byUp);
        }
    }

    static void promise14OneAlone() {
        closedBy("s0,1;s3,4;s4,3;", new int[] {60, 70, 10, 90, 85}, new int[] {0, 10, 0, 5, 0});
    }

    public static void main(String[] args) {
        Boundaries.run(OrdersBoundaryTest.class, 12, 13, 14);
    }
}
