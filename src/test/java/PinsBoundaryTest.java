/** The boundary cases of promises 21 to 27: pins, years, suits KEPT, count. */
public final class PinsBoundaryTest {
    private static final int BAD = Boundaries.BAD;
    private static final int NO = Boundaries.NO;
    private static final int FULL = Boundaries.FULL;
    private static final int NONE = Boundaries.NONE;

    private PinsBoundaryTest() { }

    private static void due(String call, Object got, Object want) {
        Boundaries.due(call, got, want);
    }

    // ---- 21: pin

    static void promise21SeamsThatThereAre() {
        for (int seams = 0; seams <= 10; seams++) {
            String text = "t100;t100;p0,50,3;p1,50,3;" + "s0,1;".repeat(seams);
            if (seams > 0) {
                due("the last of " + seams, Checks.laid(text).pin(seams - 1), 1);
            }
            for (int s : Boundaries.outside(0, seams - 1)) {
                Boundaries.unchanged("pin(" + s + ") of " + seams, () -> Checks.laid(text), x -> x.pin(s), BAD);
            }
        }
        for (int s : Boundaries.outside(0, 1)) {
            Boundaries.unchanged("pin(" + s + ")", Boundaries::some, x -> x.pin(s), BAD);
        }
    }

    static void promise21ByOneTailor() {
        Boundaries.unchanged("both by one", Boundaries::some, x -> x.pin(1), NO);
        String one = "t100;p0,50,3;p0,50,3;s0,1;";
        Boundaries.unchanged("no other TAILOR", () -> Checks.laid(one), x -> x.pin(0), NO);
        // Two TAILORS of one INCH are still two.
        due("alike inches", Checks.laid("t100;t100;p0,50,3;p1,50,3;s0,1;").pin(0), 1);
        due("the last TAILOR and the first", Checks.laid("t100;".repeat(6) + "p5,50,3;p0,50,3;s0,1;").pin(0), 1);
    }

    static void promise21TwelveAtMost() {
        SuitByTailors x = Checks.laid(Boundaries.FULLEST);
        for (int i = 1; i <= 12; i++) {
            due("the " + i + "th", x.pin(i % 6), i);
        }
        due("the thirteenth", x.pin(0), FULL);
        due("12 stay", x.count(4), 12);
        Boundaries.unchanged("into a SEAM with PINS", Boundaries::full, y -> y.pin(0), FULL);
        Boundaries.unchanged("into a SEAM without", Boundaries::full, y -> y.pin(8), FULL);
        SuitByTailors one = new SuitByTailors();
        for (int i = 1; i <= 12; i++) {
            due("all into one SEAM", one.pin(0), i);
        }
        due("no more", one.pin(0), FULL);
    }

    static void promise21BadThenNoThenFull() {
        for (int s : Boundaries.outside(0, 9)) {
            Boundaries.unchanged("pin(" + s + ")", Boundaries::full, x -> x.pin(s), BAD);
        }
        Boundaries.unchanged("by one TAILOR", Boundaries::full, x -> x.pin(6), NO);
        Boundaries.unchanged("by one TAILOR", Boundaries::full, x -> x.pin(9), NO);
    }

    static void promise21RefusedTakesNoTurn() {
        SuitByTailors x = Checks.laid("t100;t100;p0,50,3;p1,50,3;p0,50,3;s0,1;s0,2;");
        x.pin(0);
        x.pin(1);
        x.pin(2);
        x.pin(-1);
        due("the second PIN", x.pin(0), 2);
        due("by the second TAILOR", x.thumb(1), 1);
    }

    // ---- 22: noPins

    static void promise22From0To12() {
        due("of a new one", new SuitByTailors().noPins(), 0);
        SuitByTailors x = Boundaries.full();
        due("of 12", x.noPins(), 12);
        due("none left", x.count(4), 0);
        due("of none", x.noPins(), 0);
        due("no thumb", x.thumb(0), NONE);
        for (int i = 1; i <= 12; i++) {
            due("12 again", x.pin(0), i);
        }
        due("and no more", x.pin(0), FULL);
    }

    static void promise22TurnsBeginAnew() {
        SuitByTailors x = new SuitByTailors();
        x.pin(0);
        x.noPins();
        x.pin(0);
        due("by the first TAILOR", x.thumb(0), 0);
        x.pin(0);
        due("by the second TAILOR", x.thumb(1), 1);
    }

    static void promise22AllElseStays() {
        SuitByTailors x = Boundaries.some();
        x.noPins();
        x.pin(0);
        x.pin(0);
        due("all of it", Boundaries.whole(x), Boundaries.whole(Boundaries.some()));
    }

    // ---- 23: thumb

    static void promise23Below0IsBad() {
        int[] below = {-1, -2, Boundaries.LOW};
        for (int i : below) {
            Boundaries.unchanged("of none", SuitByTailors::new, x -> x.thumb(i), BAD);
            Boundaries.unchanged("of some", Boundaries::some, x -> x.thumb(i), BAD);
            Boundaries.unchanged("of 12", Boundaries::full, x -> x.thumb(i), BAD);
        }
    }

    static void promise23NotSoMany() {
        SuitByTailors x = new SuitByTailors();
        for (int pins = 0; pins <= 12; pins++) {
            due("the last of " + pins, pins == 0 ? 0 : x.thumb(pins - 1), pins == 0 ? 0 : (pins - 1) % 2);
            due("behind " + pins, x.thumb(pins), NONE);
            x.pin(0);
        }
        int[] above = {12, 13, Boundaries.HIGH};
        for (int i : above) {
            Boundaries.unchanged("thumb(" + i + ")", Boundaries::full, y -> y.thumb(i), NONE);
        }
        Boundaries.unchanged("thumb(2)", Boundaries::some, y -> y.thumb(2), NONE);
    }

    static void promise23TurnsOfEachSeam() {
        // The same two PARTS in three SEAMS, one turned: each SEAM has turns of its own.
        SuitByTailors x = Checks.laid("t100;t100;t100;p1,50,3;p2,50,3;s0,1;s1,0;s0,1;");
        int[] seams = {0, 1, 2, 0, 1, 2, 2, 2, 1, 0, 0, 0};
        int[] turn = new int[3];
        for (int i = 0; i < 12; i++) {
            x.pin(seams[i]);
            int side = (turn[seams[i]]++ + (seams[i] == 1 ? 1 : 0)) % 2;
            due("thumb(" + i + ")", x.thumb(i), 1 + side);
        }
    }

    // ---- 24: year

    static void promise24Boys0To999() {
        for (int z : Boundaries.outside(0, 999)) {
            Boundaries.unchanged("year(" + z + ", 1, 0)", Boundaries::full, x -> x.year(z, 1, 0), BAD);
            Boundaries.unchanged("year(" + z + ", 100, 1)", Boundaries::some, x -> x.year(z, 100, 1), BAD);
        }
        due("boy 0", Boundaries.some().year(0, 1, 0) >= 0, true);
        due("boy 999", Boundaries.some().year(999, 1, 0) >= 0, true);
    }

    static void promise24From1To100Boys() {
        for (int n : Boundaries.outside(1, 100)) {
            Boundaries.unchanged("year(0, " + n + ", 0)", Boundaries::full, x -> x.year(0, n, 0), BAD);
            Boundaries.unchanged("year(999, " + n + ", 1)", Boundaries::some, x -> x.year(999, n, 1), BAD);
        }
        SuitByTailors one = Checks.laid("t100;p0,50,3;");
        for (int n = 1; n <= 100; n++) {
            due("all of " + n + " close", one.year(950, n, 0), n);
            due("no GAPS of " + n, one.year(950, n, 1), 0);
        }
    }

    static void promise24WhatIs0Or1() {
        for (int what : Boundaries.outside(0, 1)) {
            Boundaries.unchanged("year(5, 5, " + what + ")", Boundaries::some, x -> x.year(5, 5, what), BAD);
        }
    }

    static void promise24Behind999Comes0() {
        SuitByTailors x = Checks.laid(Boundaries.FULLEST);
        for (int what = 0; what <= 1; what++) {
            due("999 and 0", x.year(999, 2, what), x.year(999, 1, what) + x.year(0, 1, what));
            due("998 to 1", x.year(998, 4, what), x.year(998, 2, what) + x.year(0, 2, what));
            due("999 to 98", x.year(999, 100, what), x.year(999, 1, what) + x.year(0, 99, what));
            due("900 to 999", x.year(900, 100, what), x.year(900, 50, what) + x.year(950, 50, what));
            due("901 to 0", x.year(901, 100, what), x.year(901, 99, what) + x.year(0, 1, what));
        }
    }

    static void promise24EachBoyInPlaceOfZ() {
        String text = "t100;" + "p0,50,3;".repeat(4) + "s0,1;s1,2;s2,3;g3;";
        int[] closing = new int[1000];
        int[] gaps = new int[1000];
        for (int z = 0; z < 1000; z++) {
            int[] slips = new int[4];
            for (int i = 0; i < 4; i++) {
                slips[i] = Boundaries.slip(i, i, z);
            }
            closing[z] = 1;
            for (int s = 0; s < 3; s++) {
                int gap = Math.abs(slips[s] - slips[s + 1]);
                gaps[z] += gap;
                closing[z] &= gap <= 3 ? 1 : 0;
            }
        }
        for (int z = 0; z < 1000; z += 37) {
            SuitByTailors x = Checks.laid(text + "z" + z + ";");
            x.alter(0, 9);
            int many = 0;
            int sum = 0;
            for (int n = 1; n <= 100; n++) {
                many += closing[(z + n - 1) % 1000];
                sum += gaps[(z + n - 1) % 1000];
                due("closing of " + n + " from " + z, x.year(z, n, 0), many);
                due("GAPS of " + n + " from " + z, x.year(z, n, 1), sum);
            }
        }
    }

    static void promise24ChangesNothing() {
        int closing = Boundaries.some().year(950, 100, 0);
        Boundaries.unchanged("year(950, 100, 0)", Boundaries::some, x -> x.year(950, 100, 0), closing);
    }

    // ---- 25: keep

    static void promise25TwoAtMost() {
        SuitByTailors x = new SuitByTailors();
        due("the first", x.keep(), 1);
        due("the second", x.keep(), 2);
        due("the third", x.keep(), FULL);
        due("2 stay", x.count(6), 2);
        Boundaries.unchanged("the third", Boundaries::full, SuitByTailors::keep, FULL);
    }

    static void promise25FullLeavesWhatIsKept() {
        SuitByTailors x = Checks.laid("t100;p0,50,3;");
        for (int i = 1; i <= 4; i++) {
            x.alter(0, 1);
            due("KEPT at " + (50 + i), x.keep(), i <= 2 ? i : FULL);
        }
        due("the second one", x.back(), 1);
        due("as long", x.part(0, 6), 52);
        due("room for one", x.keep(), 2);
        due("and no more", x.keep(), FULL);
        due("the same again", x.back(), 1);
        due("as long", x.part(0, 6), 52);
        due("the first one", x.back(), 0);
        due("as long", x.part(0, 6), 51);
    }

    static void promise25LeavesWhatCanBeUndone() {
        SuitByTailors x = Checks.laid("t100;p0,50,3;");
        for (int i = 0; i < 9; i++) {
            x.alter(0, 1);
        }
        due("keep()", x.keep(), 1);
        due("8 can be", x.count(5), 8);
        due("undo()", x.undo(), 7);
        due("KEPT still", x.count(6), 1);
        due("back()", x.back(), 0);
        due("as long", x.part(0, 6), 59);
    }

    // ---- 26: back

    static void promise26NothingKept() {
        Boundaries.unchanged("of a new one", SuitByTailors::new, SuitByTailors::back, NO);
        Boundaries.unchanged("8 can be UNDONE", PinsBoundaryTest::nothingKept, SuitByTailors::back, NO);
        due("8 can be UNDONE", nothingKept().count(5), 8);
        Boundaries.unchanged("no more KEPT", PinsBoundaryTest::noMoreKept, SuitByTailors::back, NO);
    }

    private static SuitByTailors nothingKept() {
        SuitByTailors x = Checks.laid(Boundaries.FULLEST);
        x.change(0, 6);
        for (int i = 0; i < 8; i++) {
            x.alter(i % 7, i - 3);
        }
        return x;
    }

    private static SuitByTailors noMoreKept() {
        SuitByTailors x = Boundaries.full();
        x.back();
        x.back();
        x.alter(3, 2);
        return x;
    }

    static void promise26TheLastFirst() {
        SuitByTailors x = Boundaries.full();
        due("one left", x.back(), 1);
        due("nothing can be UNDONE", x.count(5), 0);
        due("undo()", x.undo(), NO);
        due("PART 6 is MEASURED first", x.part(6, 3), 0);
        due("not longer", x.part(0, 6), x.part(0, 5));
        due("none left", x.back(), 0);
        due("undo()", x.undo(), NO);
        due("PART 0 is MEASURED first", x.part(0, 3), 0);
        due("9 longer", x.part(0, 6), x.part(0, 5) + 9);
        due("no more", x.back(), NO);
        due("PINS stay", x.count(4), 12);
        due("SEEN stays", x.count(3), 10);
        due("THE TEXT stays", x.count(7), 300);
    }

    static void promise26UndoneAnewBehindIt() {
        SuitByTailors x = Boundaries.full();
        x.back();
        int length = x.part(4, 6);
        for (int i = 1; i <= 9; i++) {
            x.alter(4, 1);
            due("can be UNDONE", x.count(5), Math.min(i, 8));
        }
        for (int left = 7; left >= 0; left--) {
            due("left", x.undo(), left);
        }
        due("the ninth stays", x.part(4, 6), length + 1);
    }

    static void promise26LengthsFrom1To299() {
        int[] lengths = {1, 299};
        for (int length : lengths) {
            SuitByTailors x = Boundaries.ofLengths("", length);
            x.keep();
            Boundaries.makeLong(x, 0, 150);
            x.back();
            due("as long as KEPT", x.part(0, 6), length);
        }
    }

    // ---- 27: count

    static void promise27WhatIs0To7() {
        for (int what : Boundaries.outside(0, 7)) {
            Boundaries.unchanged("count(" + what + ")", Boundaries::some, x -> x.count(what), BAD);
            Boundaries.unchanged("count(" + what + ")", Boundaries::full, x -> x.count(what), BAD);
        }
    }

    static void promise27TheMost() {
        int[] most = {6, 7, 10, 10, 12, 8, 2, 300};
        SuitByTailors x = Boundaries.full();
        for (int what = 0; what <= 7; what++) {
            due("count(" + what + ")", x.count(what), most[what]);
        }
    }

    static void promise27TheLeast() {
        int[] least = {1, 1, 0, 0, 0, 0, 0, 0};
        SuitByTailors x = Checks.laid("t100;p0,50,3;");
        x.wipe();
        for (int what = 0; what <= 7; what++) {
            due("count(" + what + ")", x.count(what), least[what]);
        }
    }

    static void promise27OfAllInBetween() {
        int[] some = {2, 3, 2, 2, 2, 3, 1, Boundaries.SMALL.length() + 3};
        for (int what = 0; what <= 7; what++) {
            int asked = what;
            Boundaries.unchanged("count(" + what + ")", Boundaries::some, x -> x.count(asked), some[what]);
        }
    }

    public static void main(String[] args) {
        Boundaries.run(PinsBoundaryTest.class, 21, 22, 23, 24, 25, 26, 27);
    }
}
