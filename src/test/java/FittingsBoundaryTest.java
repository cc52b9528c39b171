/** The boundary cases of promises 9 to 11: change, alter, undo. */
public final class FittingsBoundaryTest {
    private static final int BAD = Boundaries.BAD;
    private static final int NO = Boundaries.NO;

    private FittingsBoundaryTest() { }

    private static void due(String call, Object got, Object want) {
        Boundaries.due(call, got, want);
    }

    // ---- 9: change

    static void promise09PlacesThatThereAre() {
        for (int i : Boundaries.outside(0, 6)) {
            Boundaries.unchanged("change(" + i + ", 0)", Boundaries::full, x -> x.change(i, 0), BAD);
            Boundaries.unchanged("change(6, " + i + ")", Boundaries::full, x -> x.change(6, i), BAD);
            Boundaries.unchanged("change(" + i + ", " + i + ")", Boundaries::full, x -> x.change(i, i), BAD);
        }
        for (int i : Boundaries.outside(0, 2)) {
            Boundaries.unchanged("change(" + i + ", 0)", Boundaries::some, x -> x.change(i, 0), BAD);
            Boundaries.unchanged("change(2, " + i + ")", Boundaries::some, x -> x.change(2, i), BAD);
        }
    }

    static void promise09AlikeIsBad() {
        for (int i = 0; i < 7; i++) {
            int place = i;
            Boundaries.unchanged("change(" + i + ", " + i + ")", Boundaries::full, x -> x.change(place, place), BAD);
        }
        Boundaries.unchanged("of one PART", () -> Checks.laid("t100;p0,50,3;"), x -> x.change(0, 0), BAD);
        Boundaries.unchanged("of one PART", () -> Checks.laid("t100;p0,50,3;"), x -> x.change(0, 1), BAD);
    }

    static void promise09FirstAndLastPlace() {
        for (int parts = 2; parts <= 7; parts++) {
            int last = parts - 1;
            SuitByTailors x = Checks.laid("t100;" + "p0,50,3;".repeat(parts) + "s0,1;z41;");
            int gaps = x.change(0, last);
            due("the GAPS", gaps, x.gap(-1));
            due("the first of " + parts, x.part(0, 3), last);
            due("the last of " + parts, x.part(last, 3), 0);
            x.change(last, 0);
            due("the first again", x.part(0, 3), 0);
            due("the last again", x.part(last, 3), last);
        }
    }

    static void promise09NothingIsLongerAnyMore() {
        SuitByTailors x = Boundaries.full();
        x.change(0, 1);
        for (int i = 0; i < 7; i++) {
            due("part " + i, x.part(i, 6), x.part(i, 5));
            due("SLIP of " + i, x.part(i, 4), 100 + Boundaries.slip(i, x.part(i, 3), 998));
        }
    }

    // ---- 10: alter

    static void promise10From9ShorterTo9Longer() {
        for (int d = -9; d <= 9; d++) {
            SuitByTailors x = Checks.laid("t100;p0,50,3;");
            due("alter(0, " + d + ")", x.alter(0, d), 50 + d);
            due("as long", x.part(0, 6), 50 + d);
            due("can be UNDONE", x.count(5), 1);
        }
        for (int d : Boundaries.outside(-9, 9)) {
            Boundaries.unchanged("alter(0, " + d + ")", Boundaries::some, x -> x.alter(0, d), BAD);
            Boundaries.unchanged("alter(0, " + d + ")", Boundaries::full, x -> x.alter(0, d), BAD);
        }
    }

    static void promise10PartsThatThereAre() {
        for (int parts = 1; parts <= 7; parts++) {
            String text = "t100;" + "p0,50,3;".repeat(parts);
            int last = parts - 1;
            SuitByTailors x = Checks.laid(text);
            due("the last of " + parts, x.alter(last, 1), x.part(last, 5) + 1);
            for (int i : Boundaries.outside(0, last)) {
                Boundaries.unchanged("alter(" + i + ", 0)", () -> Checks.laid(text), y -> y.alter(i, 0), BAD);
            }
        }
    }

    static void promise10NotBelow1() {
        for (int d = 1; d <= 9; d++) {
            int shorter = -d;
            due("just 1", Boundaries.ofLengths("", 1 + d).alter(0, -d), 1);
            int length = d;
            Boundaries.unchanged("just 0", () -> Boundaries.ofLengths("", length), x -> x.alter(0, shorter), NO);
            Boundaries.unchanged("from 1", () -> Boundaries.ofLengths("", 1), x -> x.alter(0, shorter), NO);
        }
        due("stays 1", Boundaries.ofLengths("", 1).alter(0, 0), 1);
    }

    static void promise10NotAbove299() {
        for (int d = 1; d <= 9; d++) {
            int longer = d;
            due("just 299", Boundaries.ofLengths("", 299 - d).alter(0, d), 299);
            Boundaries.unchanged("just 300", () -> Boundaries.ofLengths("", 300 - longer), x -> x.alter(0, longer), NO);
            Boundaries.unchanged("from 299", () -> Boundaries.ofLengths("", 299), x -> x.alter(0, longer), NO);
        }
        due("stays 299", Boundaries.ofLengths("", 299).alter(0, 0), 299);
    }

    static void promise10NoLeavesWhatCanBeUndone() {
        Boundaries.unchanged("8 can be", FittingsBoundaryTest::longAndFull, x -> x.alter(0, 1), NO);
        due("8 can be", longAndFull().count(5), 8);
    }

    /** 299 long, with 8 that can be UNDONE. */
    private static SuitByTailors longAndFull() {
        return Boundaries.ofLengths("", 299);
    }

    static void promise10BadAheadOfNo() {
        Boundaries.unchanged("10 above 299", () -> Boundaries.ofLengths("", 299), x -> x.alter(0, 10), BAD);
        Boundaries.unchanged("10 below 1", () -> Boundaries.ofLengths("", 1), x -> x.alter(0, -10), BAD);
        Boundaries.unchanged("no such PART", () -> Boundaries.ofLengths("", 299), x -> x.alter(1, 9), BAD);
        Boundaries.unchanged("far above", () -> Boundaries.ofLengths("", 299), x -> x.alter(0, Boundaries.HIGH), BAD);
        Boundaries.unchanged("far below", () -> Boundaries.ofLengths("", 1), x -> x.alter(0, Boundaries.LOW), BAD);
    }

    // ---- 11: undo

    static void promise11NothingToBeUndone() {
        Boundaries.unchanged("of a new one", SuitByTailors::new, SuitByTailors::undo, NO);
        Boundaries.unchanged("of one LAID", () -> Checks.laid(Boundaries.FULLEST), SuitByTailors::undo, NO);
        Boundaries.unchanged("all UNDONE", FittingsBoundaryTest::allUndone, SuitByTailors::undo, NO);
        Boundaries.unchanged("all refused", FittingsBoundaryTest::allRefused, SuitByTailors::undo, NO);
    }

    private static SuitByTailors allUndone() {
        SuitByTailors x = Boundaries.full();
        for (int i = 0; i < 8; i++) {
            x.undo();
        }
        return x;
    }

    private static SuitByTailors allRefused() {
        SuitByTailors x = Checks.laid("t100;p0,10,0;p0,10,0;");
        x.alter(0, -9);
        x.keep();
        x.back();
        x.alter(0, -10);
        x.alter(0, 10);
        x.alter(2, 0);
        x.change(0, 0);
        x.change(0, 2);
        return x;
    }

    static void promise11TheLast8() {
        for (int many = 1; many <= 20; many++) {
            SuitByTailors x = Checks.laid("t100;p0,50,3;");
            for (int i = 1; i <= many; i++) {
                x.alter(0, i % 2 == 0 ? 9 : -i % 9);
            }
            due("of " + many, x.count(5), Math.min(many, 8));
            int[] lengths = lengthsBy(many);
            for (int left = Math.min(many, 8) - 1; left >= 0; left--) {
                due("left of " + many, x.undo(), left);
                int behind = many - Math.min(many, 8) + left;
                due("behind " + behind + " of " + many, x.part(0, 6), lengths[behind]);
            }
            due("no more of " + many, x.undo(), NO);
            due("stays", x.part(0, 6), lengths[many - Math.min(many, 8)]);
        }
    }

    /** How long the PART of promise11TheLast8 is behind 0, 1, .. alterations. */
    private static int[] lengthsBy(int many) {
        int[] lengths = new int[many + 1];
        lengths[0] = 50;
        for (int i = 1; i <= many; i++) {
            lengths[i] = lengths[i - 1] + (i % 2 == 0 ? 9 : -i % 9);
        }
        return lengths;
    }

    static void promise11ChangesAndAltersTogether() {
        SuitByTailors x = Checks.laid("t100;" + "p0,50,3;".repeat(7) + "z5;");
        x.alter(6, 9);
        x.alter(6, 9);
        for (int i = 0; i < 7; i++) {
            x.change(i, (i + 1) % 7);
        }
        due("9 done, 8 can be", x.count(5), 8);
        for (int left = 7; left >= 0; left--) {
            due("left", x.undo(), left);
        }
        // The first of the nine can't be: so the PART is 9 longer, but not 18.
        due("9 longer", x.part(6, 6), x.part(6, 5) + 9);
        for (int i = 0; i < 7; i++) {
            due("place of " + i, x.part(i, 3), i);
        }
    }

    static void promise11ByNothingCountsToo() {
        SuitByTailors x = Checks.laid("t100;p0,50,3;");
        x.alter(0, 5);
        for (int i = 0; i < 8; i++) {
            x.alter(0, 0);
        }
        due("8 can be", x.count(5), 8);
        for (int left = 7; left >= 0; left--) {
            due("left", x.undo(), left);
        }
        due("the first stays", x.part(0, 6), 55);
    }

    static void promise11AgainBehindUndoing() {
        SuitByTailors x = Checks.laid("t100;p0,50,3;");
        for (int i = 0; i < 12; i++) {
            x.alter(0, 1);
        }
        for (int i = 0; i < 5; i++) {
            x.undo();
        }
        due("3 left", x.count(5), 3);
        for (int i = 0; i < 6; i++) {
            x.alter(0, -2);
        }
        due("8 again", x.count(5), 8);
        for (int left = 7; left >= 0; left--) {
            due("left", x.undo(), left);
        }
        // 12 longer, 5 of these UNDONE, 6 more: of the 3 of the first kind one is lost by then.
        due("as long", x.part(0, 6), 55);
    }

    static void promise11LengthsFrom1To299() {
        SuitByTailors x = Boundaries.ofLengths("", 298);
        x.alter(0, 1);
        x.undo();
        due("298 again", x.part(0, 6), 298);
        SuitByTailors y = Boundaries.ofLengths("", 2);
        y.alter(0, -1);
        y.undo();
        due("2 again", y.part(0, 6), 2);
    }

    public static void main(String[] args) {
        Boundaries.run(FittingsBoundaryTest.class, 9, 10, 11);
    }
}
