/** The boundary cases of promises 15 to 18: seen, forget, inch, added. */
public final class InchesBoundaryTest {
    private static final int BAD = Boundaries.BAD;
    private static final int FULL = Boundaries.FULL;
    private static final int NONE = Boundaries.NONE;

    private InchesBoundaryTest() { }

    private static void due(String call, Object got, Object want) {
        Boundaries.due(call, got, want);
    }

    // ---- 15: seen

    static void promise15TailorsThatThereAre() {
        for (int tailors = 1; tailors <= 6; tailors++) {
            String text = "t100;".repeat(tailors) + "p0,50,3;";
            due("the first of " + tailors, Checks.laid(text).seen(0, 60, 60), 1);
            due("the last of " + tailors, Checks.laid(text).seen(tailors - 1, 60, 60), 1);
            for (int t : Boundaries.outside(0, tailors - 1)) {
                Boundaries.unchanged("seen(" + t + ")", () -> Checks.laid(text), x -> x.seen(t, 60, 60), BAD);
            }
        }
    }

    static void promise15Told10To199() {
        due("10", new SuitByTailors().seen(0, 10, 10), 1);
        due("199", new SuitByTailors().seen(0, 199, 199), 1);
        for (int m : Boundaries.outside(10, 199)) {
            Boundaries.unchanged("told " + m, Boundaries::some, x -> x.seen(0, m, 60), BAD);
        }
    }

    static void promise15Cut1To299() {
        due("1", new SuitByTailors().seen(0, 60, 1), 1);
        due("299", new SuitByTailors().seen(0, 60, 299), 1);
        for (int v : Boundaries.outside(1, 299)) {
            Boundaries.unchanged("cut " + v, Boundaries::some, x -> x.seen(0, 60, v), BAD);
        }
    }

    static void promise15TenAtMost() {
        SuitByTailors x = Checks.laid(Boundaries.FULLEST);
        for (int i = 1; i <= 10; i++) {
            due("the " + i + "th", x.seen(i % 6, 60, 60), i);
        }
        due("the eleventh", x.seen(0, 60, 60), FULL);
        due("10 stay", x.count(3), 10);
        Boundaries.unchanged("of another TAILOR", Boundaries::full, y -> y.seen(5, 10, 299), FULL);
        Boundaries.unchanged("what was SEEN already", Boundaries::full, y -> y.seen(0, 100, 90), FULL);
    }

    static void promise15BadAheadOfFull() {
        for (int t : Boundaries.outside(0, 5)) {
            Boundaries.unchanged("seen(" + t + ", 60, 60)", Boundaries::full, x -> x.seen(t, 60, 60), BAD);
        }
        for (int m : Boundaries.outside(10, 199)) {
            Boundaries.unchanged("seen(0, " + m + ", 60)", Boundaries::full, x -> x.seen(0, m, 60), BAD);
        }
        for (int v : Boundaries.outside(1, 299)) {
            Boundaries.unchanged("seen(0, 60, " + v + ")", Boundaries::full, x -> x.seen(0, 60, v), BAD);
        }
    }

    // ---- 16: forget

    static void promise16From0To10() {
        due("of a new one", new SuitByTailors().forget(), 0);
        SuitByTailors x = Boundaries.full();
        due("of 10", x.forget(), 10);
        due("none left", x.count(3), 0);
        due("of none", x.forget(), 0);
        for (int t = 0; t < 6; t++) {
            due("all fit " + t, x.inch(t, 0), 41);
        }
        for (int i = 1; i <= 10; i++) {
            due("10 again", x.seen(5, 100, 95), i);
        }
        due("and no more", x.seen(5, 100, 95), FULL);
        due("only these count", x.inch(5, 1), 95);
        due("of 10 again", x.forget(), 10);
    }

    static void promise16AllElseStays() {
        SuitByTailors x = Boundaries.some();
        x.forget();
        x.seen(0, 60, 59);
        x.seen(1, 66, 60);
        due("all of it", Boundaries.whole(x), Boundaries.whole(Boundaries.some()));
    }

    // ---- 17: inch

    static void promise17TailorsThatThereAre() {
        for (int t : Boundaries.outside(0, 5)) {
            Boundaries.unchanged("inch(" + t + ", 0)", Boundaries::full, x -> x.inch(t, 0), BAD);
            Boundaries.unchanged("inch(" + t + ", 1)", Boundaries::full, x -> x.inch(t, 1), BAD);
        }
        for (int t : Boundaries.outside(0, 1)) {
            Boundaries.unchanged("inch(" + t + ", 0)", Boundaries::some, x -> x.inch(t, 0), BAD);
        }
        due("one alone", Checks.laid("t100;p0,50,3;").inch(0, 0), 41);
        due("no second", Checks.laid("t100;p0,50,3;").inch(1, 0), BAD);
        due("the sixth", Checks.laid(Boundaries.FULLEST).inch(5, 1), 80);
    }

    static void promise17WhatIs0Or1() {
        for (int what : Boundaries.outside(0, 1)) {
            Boundaries.unchanged("inch(0, " + what + ")", Boundaries::some, x -> x.inch(0, what), BAD);
        }
        Boundaries.unchanged("how many", Boundaries::some, x -> x.inch(0, 0), 1);
        Boundaries.unchanged("the lowest", Boundaries::some, x -> x.inch(0, 1), 99);
    }

    static void promise17NothingSeen() {
        due("all of 80 to 120", new SuitByTailors().inch(1, 0), 41);
        due("the lowest", new SuitByTailors().inch(1, 1), 80);
    }

    static void promise17Of80To120() {
        // Told 100 he cuts just his INCH; 10 and 199 have their ends where the cutting puts them.
        int[][] rows = {{100, 79, 0, NONE}, {100, 80, 1, 80}, {100, 81, 1, 81}, {100, 119, 1, 119}, {100, 120, 1, 120},
            {100, 121, 0, NONE}, {10, 7, 0, NONE}, {10, 8, 10, 80}, {10, 9, 10, 90}, {10, 11, 10, 110}, {10, 12, 1, 120},
            {10, 13, 0, NONE}, {199, 158, 0, NONE}, {199, 159, 1, 80}, {199, 160, 0, NONE}, {199, 161, 1, 81},
            {199, 237, 0, NONE}, {199, 238, 1, 120}, {199, 239, 0, NONE}, {199, 1, 0, NONE}, {199, 299, 0, NONE},
            {60, 60, 2, 100}};
        for (int[] r : rows) {
            SuitByTailors x = new SuitByTailors();
            x.seen(1, r[0], r[1]);
            due("how many by " + r[0] + ", " + r[1], x.inch(1, 0), r[2]);
            due("the lowest by " + r[0] + ", " + r[1], x.inch(1, 1), r[3]);
            due("the other TAILOR", x.inch(0, 0), 41);
        }
    }

    static void promise17AllThatWasSeen() {
        // The first and the last of ten make him another one each.
        for (int odd = 0; odd < 10; odd++) {
            SuitByTailors x = new SuitByTailors();
            for (int i = 0; i < 10; i++) {
                x.seen(0, i == odd ? 100 : 10, i == odd ? 95 : 9);
            }
            due("95 alone, told as " + odd, x.inch(0, 0), 1);
            due("95 alone, told as " + odd, x.inch(0, 1), 95);
        }
        for (int odd = 0; odd < 10; odd++) {
            SuitByTailors x = new SuitByTailors();
            for (int i = 0; i < 10; i++) {
                x.seen(0, 10, i == odd ? 8 : 9);
            }
            due("none, told as " + odd, x.inch(0, 0), 0);
            due("none, told as " + odd, x.inch(0, 1), NONE);
        }
    }

    static void promise17BadAheadOfNone() {
        Boundaries.unchanged("none", InchesBoundaryTest::noneFits, x -> x.inch(0, 1), NONE);
        Boundaries.unchanged("0 of them", InchesBoundaryTest::noneFits, x -> x.inch(0, 0), 0);
        for (int what : Boundaries.outside(0, 1)) {
            Boundaries.unchanged("inch(0, " + what + ")", InchesBoundaryTest::noneFits, x -> x.inch(0, what), BAD);
        }
        Boundaries.unchanged("inch(2, 1)", InchesBoundaryTest::noneFits, x -> x.inch(2, 1), BAD);
    }

    private static SuitByTailors noneFits() {
        SuitByTailors x = new SuitByTailors();
        x.seen(0, 100, 79);
        x.seen(1, 100, 121);
        return x;
    }

    // ---- 18: added

    static void promise18PartsThatThereAre() {
        for (int i : Boundaries.outside(0, 6)) {
            Boundaries.unchanged("added(" + i + ", 60)", Boundaries::full, x -> x.added(i, 60), BAD);
        }
        for (int i : Boundaries.outside(0, 2)) {
            Boundaries.unchanged("added(" + i + ", 60)", Boundaries::some, x -> x.added(i, 60), BAD);
        }
        due("the first", Checks.laid(Boundaries.FULLEST).added(0, 8), 100);
        due("the seventh", Checks.laid(Boundaries.FULLEST).added(6, 62), 100);
        due("no second", Checks.laid("t100;p0,50,3;").added(1, 50), BAD);
    }

    static void promise18Cut1To299() {
        for (int v : Boundaries.outside(1, 299)) {
            Boundaries.unchanged("added(0, " + v + ")", Boundaries::some, x -> x.added(0, v), BAD);
        }
        SuitByTailors x = Checks.laid("t100;t80;t120;p0,10,3;p1,10,3;p2,199,3;");
        due("1 by 9 less", x.added(0, 1), 91);
        due("1 by 8 less, 1 told is nothing CUT", x.added(1, 1), 92);
        due("0 is BAD, though 1 told would be CUT so", x.added(1, 0), BAD);
        due("299", x.added(2, 299), NONE);
        due("as long as can be", x.added(2, 249), 109);
        due("1 longer", x.added(2, 250), NONE);
    }

    static void promise18SlipsOf9AtMost() {
        SuitByTailors x = Checks.laid("t100;p0,100,3;");
        due("10 less", x.added(0, 90), NONE);
        for (int v = 91; v <= 109; v++) {
            due("CUT " + v, x.added(0, v), v);
        }
        due("10 more", x.added(0, 110), NONE);
    }

    static void promise18NearestTo0() {
        // By 80, 60 and 61 told are both CUT 48: from L 50 to 72 that is 10 more to 12 less.
        for (int length = 50; length <= 72; length++) {
            int want = NONE;
            for (int told = 60; told <= 61; told++) {
                int slip = told - length;
                if (Math.abs(slip) <= 9 && (want == NONE || Math.abs(slip) < Math.abs(want - 100))) {
                    want = 100 + slip;
                }
            }
            due("L " + length, Checks.laid("t80;p0," + length + ",3;").added(0, 48), want);
        }
    }

    static void promise18ByEachInch() {
        // All of -9 to 9 from the lowest on: of two that are as near the lower one stays.
        for (int inch = 80; inch <= 120; inch++) {
            int[] lengths = {10, 57, 100, 199};
            for (int length : lengths) {
                SuitByTailors x = Checks.laid("t" + inch + ";p0," + length + ",3;");
                for (int v = Math.max(1, length * inch / 100 - 14); v <= length * inch / 100 + 14; v++) {
                    due(length + " by " + inch + " CUT " + v, x.added(0, v), nearest(length, inch, v));
                }
            }
        }
    }

    private static int nearest(int length, int inch, int v) {
        int best = NONE;
        for (int slip = -9; slip <= 9; slip++) {
            if ((length + slip) * inch / 100 == v && (best == NONE || Math.abs(slip) < Math.abs(best - 100))) {
                best = 100 + slip;
            }
        }
        return best;
    }

    static void promise18BadAheadOfNone() {
        Boundaries.unchanged("none", Boundaries::some, x -> x.added(0, 299), NONE);
        Boundaries.unchanged("no such PART", Boundaries::some, x -> x.added(3, 299), BAD);
        Boundaries.unchanged("300", Boundaries::some, x -> x.added(0, 300), BAD);
    }

    static void promise18WhateverItIsNow() {
        Boundaries.unchanged("as told", Boundaries::some, x -> x.added(0, 60), 100);
    }

    public static void main(String[] args) {
        Boundaries.run(InchesBoundaryTest.class, 15, 16, 17, 18);
    }
}
