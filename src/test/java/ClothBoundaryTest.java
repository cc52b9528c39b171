/** The boundary cases of promises 19 and 20: bolts, coat. */
public final class ClothBoundaryTest {
    private static final int BAD = Boundaries.BAD;
    private static final int NONE = Boundaries.NONE;

    private ClothBoundaryTest() { }

    private static void due(String call, Object got, Object want) {
        Boundaries.due(call, got, want);
    }

    private static void boltsAre(int c, int[] lengths, int many, int... bolts) {
        SuitByTailors x = Boundaries.ofLengths("c" + c + ";", lengths);
        due("bolts of " + c, x.bolts(-1), many);
        for (int i = 0; i < lengths.length; i++) {
            due("bolt of " + i + " by " + c, x.bolts(i), many == NONE ? NONE : bolts[i]);
        }
    }

    // ---- 19: bolts

    static void promise19PartsThatThereAre() {
        for (int i : Boundaries.outside(-1, 6)) {
            Boundaries.unchanged("bolts(" + i + ")", Boundaries::full, x -> x.bolts(i), BAD);
        }
        for (int i : Boundaries.outside(-1, 2)) {
            Boundaries.unchanged("bolts(" + i + ")", Boundaries::some, x -> x.bolts(i), BAD);
        }
        for (int parts = 1; parts <= 7; parts++) {
            SuitByTailors x = Checks.laid("t100;" + "p0,30,3;".repeat(parts));
            due("all of " + parts, x.bolts(-1), 1);
            due("the last of " + parts, x.bolts(parts - 1), 0);
            due("none behind " + parts, x.bolts(parts), BAD);
        }
    }

    static void promise19APartAsLongAsABolt() {
        int[] bolts = {1, 2, 150, 298, 299};
        for (int c : bolts) {
            boltsAre(c, new int[] {c}, 1, 0);
            boltsAre(c, new int[] {c, c}, 2, 0, 1);
            if (c < 299) {
                boltsAre(c, new int[] {c + 1}, NONE);
                boltsAre(c, new int[] {1, c + 1}, NONE);
                boltsAre(c, new int[] {c + 1, 1}, NONE);
            }
        }
    }

    static void promise19TogetherAsLongAsABolt() {
        boltsAre(300, new int[] {150, 150}, 1, 0, 0);
        boltsAre(299, new int[] {150, 150}, 2, 0, 1);
        boltsAre(300, new int[] {1, 299}, 1, 0, 0);
        boltsAre(300, new int[] {2, 299}, 2, 0, 1);
        boltsAre(999, new int[] {299, 299, 299, 102}, 1, 0, 0, 0, 0);
        boltsAre(998, new int[] {299, 299, 299, 102}, 2, 0, 0, 0, 1);
    }

    static void promise19From1To7Bolts() {
        int[] seven = {60, 60, 60, 60, 60, 60, 60};
        boltsAre(420, seven, 1, 0, 0, 0, 0, 0, 0, 0);
        boltsAre(419, seven, 2, 0, 0, 0, 0, 0, 0, 1);
        boltsAre(240, seven, 2, 0, 0, 0, 0, 1, 1, 1);
        boltsAre(239, seven, 3, 0, 0, 0, 1, 1, 1, 2);
        boltsAre(120, seven, 4, 0, 0, 1, 1, 2, 2, 3);
        boltsAre(119, seven, 7, 0, 1, 2, 3, 4, 5, 6);
        boltsAre(60, seven, 7, 0, 1, 2, 3, 4, 5, 6);
        boltsAre(59, seven, NONE);
    }

    static void promise19TheFirstOfSeveralWays() {
        // The first way of all is not of fewest bolts: 40 goes with 60, not with the 50 behind it.
        boltsAre(100, new int[] {40, 50, 60, 50}, 2, 0, 1, 0, 1);
        boltsAre(100, new int[] {30, 80, 30, 40}, 2, 0, 1, 0, 0);
        // Each 60 may go with each 40, and each 50 with each: the first way of these.
        boltsAre(100, new int[] {40, 40, 60, 60}, 2, 0, 1, 0, 1);
        boltsAre(100, new int[] {50, 50, 50, 50}, 2, 0, 0, 1, 1);
        boltsAre(100, new int[] {30, 60, 30, 40}, 2, 0, 0, 1, 1);
        // 10 goes into the first bolt, though the second one has as much room.
        boltsAre(100, new int[] {90, 90, 10}, 2, 0, 1, 0);
    }

    static void promise19BadAheadOfNone() {
        Boundaries.unchanged("none", ClothBoundaryTest::tooLong, x -> x.bolts(-1), NONE);
        Boundaries.unchanged("none", ClothBoundaryTest::tooLong, x -> x.bolts(0), NONE);
        Boundaries.unchanged("none", ClothBoundaryTest::tooLong, x -> x.bolts(1), NONE);
        for (int i : Boundaries.outside(-1, 1)) {
            Boundaries.unchanged("bolts(" + i + ")", ClothBoundaryTest::tooLong, x -> x.bolts(i), BAD);
        }
    }

    private static SuitByTailors tooLong() {
        return Boundaries.ofLengths("c50;", 50, 51);
    }

    static void promise19AsLongAsTheyAreNow() {
        SuitByTailors x = Boundaries.ofLengths("c100;", 50, 50);
        due("100", x.bolts(-1), 1);
        x.alter(0, 1);
        due("101", x.bolts(-1), 2);
        due("the second one's", x.bolts(1), 1);
        x.undo();
        due("100 again", x.bolts(-1), 1);
        due("the second one's again", x.bolts(1), 0);
    }

    // ---- 20: coat

    private static void coatIs(int set, int unlike, int... lengths) {
        SuitByTailors x = Boundaries.ofLengths("", lengths);
        due("the set", x.coat(0), set);
        due("by how much", x.coat(1), unlike);
    }

    static void promise20WhatIs0Or1() {
        for (int what : Boundaries.outside(0, 1)) {
            Boundaries.unchanged("coat(" + what + ")", Boundaries::some, x -> x.coat(what), BAD);
            Boundaries.unchanged("coat(" + what + ")", Boundaries::full, x -> x.coat(what), BAD);
        }
        Boundaries.unchanged("coat(0)", SuitByTailors::new, x -> x.coat(0), 1);
        Boundaries.unchanged("coat(1)", SuitByTailors::new, x -> x.coat(1), 6);
    }

    static void promise20OnePart() {
        coatIs(0, 1, 1);
        coatIs(0, 299, 299);
    }

    static void promise20TwoParts() {
        coatIs(1, 0, 60, 60);
        coatIs(1, 298, 1, 299);
        coatIs(1, 298, 299, 1);
    }

    static void promise20TheLowestOfSeveralSets() {
        coatIs(3, 0, 60, 60, 60, 60);
        coatIs(7, 60, 60, 60, 60, 60, 60, 60, 60);
        coatIs(1, 0, 120, 60, 60);
        coatIs(2, 0, 60, 120, 60);
        coatIs(3, 0, 60, 60, 120);
    }

    static void promise20TheHighestSetThatCanBe() {
        // The last PART alone against all others: the others are the lower set.
        coatIs(63, 0, 20, 20, 20, 20, 20, 20, 120);
        coatIs(63, 1, 20, 20, 20, 20, 20, 20, 121);
        coatIs(63, 1, 20, 20, 20, 20, 20, 20, 119);
    }

    static void promise20AsLongAsTheyAreNow() {
        SuitByTailors x = Boundaries.ofLengths("", 60, 60, 120);
        x.alter(2, 9);
        due("by 9", x.coat(1), 9);
        x.undo();
        due("by 0", x.coat(1), 0);
    }

    public static void main(String[] args) {
        Boundaries.run(ClothBoundaryTest.class, 19, 20);
    }
}
