import java.nio.charset.StandardCharsets;

/** The boundary cases of promises 1 to 8, but for FAULT, which has a test of its own. */
public final class SuitsBoundaryTest {
    private static final int BAD = Boundaries.BAD;
    private static final int NO = Boundaries.NO;
    private static final int FULL = Boundaries.FULL;
    private static final int NONE = Boundaries.NONE;

    private SuitsBoundaryTest() { }

    private static void due(String call, Object got, Object want) {
        Boundaries.due(call, got, want);
    }

    // ---- 1: a new object

    static void promise01TheTextIsEmpty() {
        SuitByTailors x = new SuitByTailors();
        due("count(7)", x.count(7), 0);
        due("fault()", x.fault(), NONE);
        due("wipe()", x.wipe(), 0);
        Boundaries.unchanged("lay()", SuitByTailors::new, SuitByTailors::lay, NO);
    }

    static void promise01NothingIsSeenPinnedUndoneKept() {
        SuitByTailors x = new SuitByTailors();
        due("forget()", x.forget(), 0);
        due("noPins()", x.noPins(), 0);
        due("undo()", x.undo(), NO);
        due("back()", x.back(), NO);
        int[] counts = {2, 2, 1, 0, 0, 0, 0, 0};
        for (int what = 0; what < 8; what++) {
            due("count(" + what + ")", x.count(what), counts[what]);
        }
    }

    static void promise01PartsAreAsTold() {
        SuitByTailors x = new SuitByTailors();
        int[][] parts = {{0, 60, 5, 0, 100, 60, 60}, {1, 60, 5, 1, 100, 66, 66}};
        for (int i = 0; i < 2; i++) {
            for (int what = 0; what < 7; what++) {
                due("part(" + i + ", " + what + ")", x.part(i, what), parts[i][what]);
            }
        }
        due("gap(0)", x.gap(0), 6);
    }

    static void promise01ClosesWithAGapOf1() {
        SuitByTailors x = new SuitByTailors();
        Boundaries.makeLong(x, 1, 62);
        due("2", x.closes(), 0);
        for (int length = 61; length >= 59; length--) {
            Boundaries.makeLong(x, 1, length);
            due("length " + length, x.closes(), 1);
        }
        Boundaries.makeLong(x, 1, 58);
        due("2 on the other side", x.closes(), 0);
    }

    static void promise01ABoltIs300Long() {
        SuitByTailors x = new SuitByTailors();
        Boundaries.makeLong(x, 0, 150);
        Boundaries.makeLong(x, 1, 150);
        due("300", x.bolts(-1), 1);
        x.alter(1, 1);
        due("301", x.bolts(-1), 2);
    }

    static void promise01TheBoyIs0() {
        SuitByTailors x = new SuitByTailors();
        due("part 1 as the second", x.part(1, 4), 100 + Boundaries.slip(1, 1, 0));
        x.change(0, 1);
        due("part 0 as the second", x.part(0, 4), 100 + Boundaries.slip(0, 1, 0));
    }

    static void promise01ObjectsAreApart() {
        SuitByTailors x = new SuitByTailors();
        Boundaries.full();
        due("another was filled", Boundaries.whole(x), Boundaries.whole(new SuitByTailors()));
    }

    static void promise01TheLastOf512Calls() {
        SuitByTailors x = new SuitByTailors();
        for (int call = 1; call < 512; call++) {
            x.alter(0, call % 2 == 0 ? -1 : 1);
        }
        due("the last one", x.part(0, 6), 61);
    }

    // ---- 2: write

    static void promise02From1To8Bytes() {
        for (int n = 1; n <= 8; n++) {
            due("write(" + n + ")", new SuitByTailors().write(n, 0), n);
        }
        for (int n : Boundaries.outside(1, 8)) {
            Boundaries.unchanged("write(" + n + ")", Boundaries::some, x -> x.write(n, 0x67313b67313b6731L), BAD);
        }
    }

    static void promise02LowestBytesHighestFirst() {
        String text = "t100;p0,123,45;";
        for (int n = 1; n <= 8; n++) {
            SuitByTailors x = new SuitByTailors();
            for (int at = 0; at < text.length(); at += n) {
                int end = Math.min(text.length(), at + n);
                // Bytes above the lowest must not count.
                long v = -1;
                for (byte b : text.substring(at, end).getBytes(StandardCharsets.ISO_8859_1)) {
                    v = v << 8 | b;
                }
                due("as long as that", x.write(end - at, v), end);
            }
            due("lay() by " + n, x.lay(), 1);
            due("L by " + n, x.part(0, 1), 123);
            due("B by " + n, x.part(0, 2), 45);
        }
    }

    static void promise02EachByteFrom0To255() {
        // "b5;" is good for three bytes alone: none of the upper half passes for one of the lower.
        for (int b = 0; b < 256; b++) {
            SuitByTailors x = new SuitByTailors();
            x.write(3, b << 16 | '5' << 8 | ';');
            due("fault() by byte " + b, x.fault(), "gzc".indexOf(b) >= 0 ? NONE : 0);
        }
    }

    static void promise02Holds300Bytes() {
        for (int n = 1; n <= 8; n++) {
            int bytes = n;
            SuitByTailors x = Checks.told(Boundaries.settings(300 - n));
            due("the last " + n, x.write(n, 0), 300);
            due("300", x.count(7), 300);
            String longer = Boundaries.settings(301 - n);
            Boundaries.unchanged("one too many, by " + n, () -> Checks.told(longer), y -> y.write(bytes, 0), FULL);
        }
        for (int n = 1; n <= 8; n++) {
            int bytes = n;
            Boundaries.unchanged("full, by " + n, Boundaries::full, y -> y.write(bytes, 0), FULL);
        }
    }

    static void promise02FullTakesNoneOfTheBytes() {
        SuitByTailors x = Checks.told("t100;p0,50,3;" + Boundaries.settings(284));
        due("g1;g", x.write(4, 0x67313b67), FULL);
        due("stays", x.count(7), 297);
        due("g1;", x.write(3, 0x67313b), 300);
        due("fault()", x.fault(), NONE);
        due("lay()", x.lay(), 1);
    }

    static void promise02BadAheadOfFull() {
        for (int n : Boundaries.outside(1, 8)) {
            Boundaries.unchanged("write(" + n + ")", Boundaries::full, x -> x.write(n, 0), BAD);
        }
    }

    // ---- 3: wipe

    static void promise03From0To300() {
        SuitByTailors x = new SuitByTailors();
        due("of nothing", x.wipe(), 0);
        x.write(1, 't');
        due("of one", x.wipe(), 1);
        due("of nothing again", x.wipe(), 0);
        Checks.tell(x, Boundaries.settings(300));
        due("of 300", x.wipe(), 300);
        due("empty", x.count(7), 0);
        Checks.tell(x, Boundaries.settings(300));
        due("300 again", x.count(7), 300);
    }

    static void promise03WhatWasWipedIsNotRead() {
        SuitByTailors x = Checks.told("t100;p0,50,3;");
        x.wipe();
        due("fault() of none", x.fault(), NONE);
        due("lay() of none", x.lay(), NO);
        Checks.tell(x, "t10");
        due("fault() of t10", x.fault(), 0);
        Checks.tell(x, "0;");
        due("fault() of t100;", x.fault(), NONE);
        due("lay() of t100;", x.lay(), NO);
    }

    static void promise03AllElseStays() {
        SuitByTailors x = Boundaries.full();
        x.wipe();
        Checks.tell(x, Boundaries.FULLEST + Boundaries.settings(300 - Boundaries.FULLEST.length()));
        due("all of it", Boundaries.whole(x), Boundaries.whole(Boundaries.full()));
    }

    // ---- 5: lay

    static void promise05OnePartAtLeast() {
        due("one", Checks.told("t100;p0,10,0;").lay(), 1);
        due("seven", Checks.told("t100;" + "p0,10,0;".repeat(7)).lay(), 7);
        Boundaries.unchanged("none", () -> Checks.told("t100;g3;z5;c9;"), SuitByTailors::lay, NO);
        Boundaries.unchanged("no text", () -> laidBefore(""), SuitByTailors::lay, NO);
        Boundaries.unchanged("settings alone", () -> laidBefore("t80;t90;g3;z5;c9;"), SuitByTailors::lay, NO);
    }

    static void promise05NoFaultAtAll() {
        String[] faults = {"x", "t79;", Boundaries.SMALL + "g21;", Boundaries.SMALL + "t100"};
        for (String text : faults) {
            Boundaries.unchanged("lay() of " + text, () -> laidBefore(text), SuitByTailors::lay, NO);
        }
    }

    /** A suit with something of all, and then this TEXT. */
    private static SuitByTailors laidBefore(String text) {
        SuitByTailors x = Boundaries.some();
        x.wipe();
        Checks.tell(x, text);
        return x;
    }

    static void promise05AsManyAsThereMayBe() {
        SuitByTailors x = Checks.told(Boundaries.FULLEST);
        due("lay()", x.lay(), 7);
        due("TAILORS", x.count(0), 6);
        due("PARTS", x.count(1), 7);
        due("SEAMS", x.count(2), 10);
        due("TAILOR of PART 5", x.part(5, 0), 5);
        due("L of PART 0", x.part(0, 1), 10);
        due("B of PART 0", x.part(0, 2), 0);
        due("L of PART 1", x.part(1, 1), 199);
        due("B of PART 1", x.part(1, 2), 99);
    }

    static void promise05AllAnewAndTheTextStays() {
        SuitByTailors x = Boundaries.full();
        due("lay()", x.lay(), 7);
        int[] counts = {6, 7, 10, 0, 0, 0, 0, 300};
        for (int what = 0; what < 8; what++) {
            due("count(" + what + ")", x.count(what), counts[what]);
        }
        for (int i = 0; i < 7; i++) {
            due("MEASURED as they come: " + i, x.part(i, 3), i);
            due("not longer: " + i, x.part(i, 6), x.part(i, 5));
        }
        due("undo()", x.undo(), NO);
        due("back()", x.back(), NO);
        due("thumb(0)", x.thumb(0), NONE);
        due("inch(0, 0)", x.inch(0, 0), 41);
        due("keep()", x.keep(), 1);
        due("seen()", x.seen(0, 60, 60), 1);
        due("pin(0)", x.pin(0), 1);
        due("by the first one again", x.thumb(0), 0);
        due("lay() again", x.lay(), 7);
        due("nothing KEPT again", x.count(6), 0);
    }

    static void promise05LastGCounts() {
        closesUpTo(2, "g20;g0;g2;");
        closesUpTo(0, "g20;g0;");
        closesUpTo(20, "g0;g20;");
        closesUpTo(1, "");
    }

    private static void closesUpTo(int g, String items) {
        due(items + " gap of " + g, Boundaries.ofLengths("s0,1;" + items, 60, 60 + g).closes(), 1);
        due(items + " gap of " + (g + 1), Boundaries.ofLengths("s0,1;" + items, 60, 61 + g).closes(), 0);
    }

    static void promise05LastZCounts() {
        String[] items = {"z999;z0;", "z0;z999;", "z1;z2;z3;", ""};
        int[] boys = {0, 999, 3, 0};
        for (int i = 0; i < items.length; i++) {
            SuitByTailors x = Checks.laid("t100;" + "p0,50,1;".repeat(7) + items[i]);
            for (int part = 0; part < 7; part++) {
                due(items[i] + " SLIP of " + part, x.part(part, 4), 100 + Boundaries.slip(part, part, boys[i]));
            }
        }
    }

    static void promise05LastCCounts() {
        String[] items = {"c999;c100;", "c1;c999;", "c5;c7;c120;", ""};
        int[] bolts = {100, 999, 120, 300};
        for (int i = 0; i < items.length; i++) {
            int most = Math.min(bolts[i], 598);
            int half = most / 2;
            due(items[i], Boundaries.ofLengths(items[i], half, most - half).bolts(-1), 1);
            if (most == bolts[i]) {
                due(items[i] + " and 1", Boundaries.ofLengths(items[i], half, most - half + 1).bolts(-1), 2);
            }
        }
    }

    static void promise05SettingsOfEarlierTextsAreGone() {
        SuitByTailors x = new SuitByTailors();
        // Thrice, so that whatever a text is read into has been read into before.
        for (int time = 0; time < 3; time++) {
            Checks.tell(x, Boundaries.FULLEST);
            x.lay();
            x.write(1, 'x');
            x.fault();
            x.wipe();
            Checks.tell(x, "t100;p0,60,5;p0,60,5;s0,1;");
            due("lay()", x.lay(), 2);
            due("SLIP", x.part(1, 4), 100 + Boundaries.slip(1, 1, 0));
            x.alter(0, 61 - x.part(0, 6));
            x.alter(1, 60 - x.part(1, 6));
            due("gap of 1", x.closes(), 1);
            x.alter(0, 1);
            due("gap of 2", x.closes(), 0);
            x.wipe();
        }
        Checks.tell(x, "t100;p0,150,5;p0,150,5;");
        x.lay();
        x.alter(0, 150 - x.part(0, 6));
        x.alter(1, 150 - x.part(1, 6));
        due("bolts of 300", x.bolts(-1), 1);
        x.alter(1, 1);
        due("bolts of 301", x.bolts(-1), 2);
    }

    // ---- 6: part

    static void promise06OfPartsThatThereAre() {
        for (int parts = 1; parts <= 7; parts++) {
            String text = "t100;" + "p0,50,1;".repeat(parts);
            SuitByTailors x = Checks.laid(text);
            for (int what = 0; what <= 6; what++) {
                due("the last of " + parts, x.part(parts - 1, what) >= 0, true);
                for (int i : Boundaries.outside(0, parts - 1)) {
                    due("part(" + i + ", " + what + ") of " + parts, x.part(i, what), BAD);
                }
            }
        }
        for (int i : Boundaries.outside(0, 6)) {
            Boundaries.unchanged("part(" + i + ", 6)", Boundaries::full, x -> x.part(i, 6), BAD);
        }
    }

    static void promise06WhatIs0To6() {
        for (int what : Boundaries.outside(0, 6)) {
            Boundaries.unchanged("part(0, " + what + ")", Boundaries::some, x -> x.part(0, what), BAD);
        }
        int[] firsts = {0, 60, 5, 2, 100 + Boundaries.slip(0, 2, 417), 60 + Boundaries.slip(0, 2, 417),
            57 + Boundaries.slip(0, 2, 417)};
        for (int what = 0; what <= 6; what++) {
            int asked = what;
            Boundaries.unchanged("part(0, " + what + ")", Boundaries::some, x -> x.part(0, asked), firsts[what]);
        }
    }

    static void promise06SlipIs5AtMost() {
        int[] lowest = new int[7];
        int[] highest = new int[7];
        for (int z = 0; z < 1000; z++) {
            SuitByTailors x = Checks.laid("t100;" + "p0,50,1;".repeat(7) + "z" + z + ";");
            for (int i = 0; i < 7; i++) {
                int slip = x.part(i, 4) - 100;
                due("SLIP of " + i + " by " + z, slip, Boundaries.slip(i, i, z));
                lowest[i] = Math.min(lowest[i], slip);
                highest[i] = Math.max(highest[i], slip);
            }
        }
        for (int i = 0; i < 7; i++) {
            due("lowest as " + i, lowest[i], -Math.min(i, 5));
            due("highest as " + i, highest[i], Math.min(i, 5));
        }
    }

    static void promise06SlipOfEachPartInEachPlace() {
        int[] boys = {0, 1, 998, 999};
        for (int z : boys) {
            for (int k = 0; k < 7; k++) {
                SuitByTailors x = Checks.laid("t100;" + "p0,50,1;".repeat(7) + "z" + z + ";");
                for (int i = 0; i < 7; i++) {
                    if (x.part(i, 3) != k) {
                        x.change(x.part(i, 3), k);
                    }
                    due("place", x.part(i, 3), k);
                    due("SLIP of " + i + " as " + k + " by " + z, x.part(i, 4), 100 + Boundaries.slip(i, k, z));
                }
            }
        }
    }

    static void promise06CutNotRounded() {
        // 199 by 120 is 23880, 199 by 99 is 19701, 199 by 101 is 20099, 10 by 80 is just 800.
        int[][] cuts = {{120, 199, 238}, {99, 199, 197}, {101, 199, 200}, {80, 10, 8}, {100, 199, 199},
            {99, 10, 9}, {109, 10, 10}, {120, 10, 12}, {80, 199, 159}};
        for (int[] c : cuts) {
            SuitByTailors x = Checks.laid("t" + c[0] + ";p0," + c[1] + ",1;");
            due(c[1] + " by " + c[0], x.part(0, 5), c[2]);
            due(c[1] + " by " + c[0], x.part(0, 6), c[2]);
        }
    }

    static void promise06CutStaysFrom1To299() {
        SuitByTailors x = Checks.laid("t100;p0,150,1;");
        Boundaries.makeLong(x, 0, 1);
        due("cut", x.part(0, 5), 150);
        Boundaries.makeLong(x, 0, 299);
        due("cut", x.part(0, 5), 150);
    }

    // ---- 7: gap

    static void promise07OfSeamsThatThereAre() {
        for (int seams = 0; seams <= 10; seams++) {
            SuitByTailors x = Checks.laid("t100;t110;p0,60,5;p1,60,5;" + "s0,1;".repeat(seams));
            due("all of " + seams, x.gap(-1), 6 * seams);
            for (int s = 0; s < seams; s++) {
                due("gap(" + s + ") of " + seams, x.gap(s), 6);
            }
            for (int s : Boundaries.outside(-1, seams - 1)) {
                due("gap(" + s + ") of " + seams, x.gap(s), BAD);
            }
        }
        for (int s : Boundaries.outside(-1, 9)) {
            Boundaries.unchanged("gap(" + s + ")", Boundaries::full, x -> x.gap(s), BAD);
        }
    }

    static void promise07From0To298OnBothSides() {
        int[][] pairs = {{1, 299}, {299, 1}, {150, 150}, {150, 151}, {151, 150}};
        int[] gaps = {298, 298, 0, 1, 1};
        for (int i = 0; i < pairs.length; i++) {
            SuitByTailors x = Boundaries.ofLengths("s0,1;s1,0;", pairs[i]);
            due("s0,1", x.gap(0), gaps[i]);
            due("s1,0", x.gap(1), gaps[i]);
            due("both", x.gap(-1), 2 * gaps[i]);
        }
    }

    // ---- 8: closes

    static void promise08UpToG() {
        for (int g = 0; g <= 20; g++) {
            String items = "s0,1;g" + g + ";";
            due("just " + g, Boundaries.ofLengths(items, 60, 60 + g).closes(), 1);
            due("just " + g, Boundaries.ofLengths(items, 60 + g, 60).closes(), 1);
            due("1 above " + g, Boundaries.ofLengths(items, 60, 61 + g).closes(), 0);
            due("1 above " + g, Boundaries.ofLengths(items, 61 + g, 60).closes(), 0);
        }
    }

    static void promise08NoSeams() {
        due("nothing gapes", Boundaries.ofLengths("g0;", 1, 299).closes(), 1);
    }

    static void promise08EachSeamAlone() {
        // Gaps of 3 all along but one of 4: none together, each alone counts.
        for (int wide = 0; wide < 7; wide++) {
            int[] lengths = new int[7];
            for (int i = 1; i < 7; i++) {
                lengths[i] = lengths[i - 1] + (i == wide ? 4 : 3);
            }
            for (int i = 0; i < 7; i++) {
                lengths[i] += 50;
            }
            SuitByTailors x = Boundaries.ofLengths("s0,1;s1,2;s2,3;s3,4;s4,5;s5,6;g3;", lengths);
            due("4 at " + wide, x.closes(), wide == 0 ? 1 : 0);
        }
    }

    public static void main(String[] args) {
        Boundaries.run(SuitsBoundaryTest.class, 1, 2, 3, 5, 6, 7, 8);
    }
}
