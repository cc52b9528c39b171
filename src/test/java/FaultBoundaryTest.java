/** The boundary cases of promise 4: what a TEXT may say, and where its FAULT is. */
public final class FaultBoundaryTest {
    private static final int NONE = Boundaries.NONE;
    private static final String PARTS = "t100;p0,50,3;p0,60,4;";

    private FaultBoundaryTest() { }

    private static void fault(String text, int place) {
        SuitByTailors x = Checks.told(text);
        Boundaries.due("fault() of " + text, x.fault(), place);
        Boundaries.due("as long as before", x.count(7), text.length());
    }

    /** The item is good alone, or its first byte is the FAULT, whatever is ahead and behind. */
    private static void item(String item, boolean good) {
        fault(PARTS + item, good ? NONE : PARTS.length());
        fault(PARTS + item + "g1;", good ? NONE : PARTS.length());
        fault(PARTS + "z5;" + item + "x", PARTS.length() + 3 + (good ? item.length() : 0));
    }

    static void promise04NoneInAnEmptyText() {
        fault("", NONE);
    }

    static void promise04Inch80To120() {
        int[] good = {80, 81, 99, 100, 119, 120};
        int[] wrong = {0, 1, 8, 12, 79, 121, 200, 999};
        for (int inch : good) {
            item("t" + inch + ";", true);
        }
        for (int inch : wrong) {
            item("t" + inch + ";", false);
        }
    }

    static void promise04SixTailors() {
        fault("t80;".repeat(6), NONE);
        fault("t80;".repeat(7), 24);
        fault("t80;".repeat(6) + "p5,50,3;t80;", 32);
        fault("t80;".repeat(6) + "p5,50,3;g1;", NONE);
    }

    static void promise04TailorToldAhead() {
        fault("p0,50,3;", 0);
        fault("p0,50,3;t100;", 0);
        for (int tailors = 1; tailors <= 6; tailors++) {
            String ahead = "t100;".repeat(tailors);
            fault(ahead + "p0,50,3;", NONE);
            fault(ahead + "p" + (tailors - 1) + ",50,3;", NONE);
            fault(ahead + "p" + tailors + ",50,3;", ahead.length());
            fault(ahead + "p" + tailors + ",50,3;t100;", ahead.length());
            fault(ahead + "p999,50,3;", ahead.length());
        }
    }

    static void promise04Length10To199() {
        int[] good = {10, 11, 99, 100, 198, 199};
        int[] wrong = {0, 1, 9, 200, 201, 999};
        for (int length : good) {
            item("p0," + length + ",3;", true);
        }
        for (int length : wrong) {
            item("p0," + length + ",3;", false);
        }
    }

    static void promise04BribeUpTo99() {
        int[] good = {0, 1, 98, 99};
        int[] wrong = {100, 101, 999};
        for (int bribe : good) {
            item("p0,50," + bribe + ";", true);
        }
        for (int bribe : wrong) {
            item("p0,50," + bribe + ";", false);
        }
    }

    static void promise04SevenParts() {
        fault("t100;" + "p0,50,3;".repeat(7), NONE);
        fault("t100;" + "p0,50,3;".repeat(8), 61);
        fault("t100;" + "p0,50,3;".repeat(7) + "s5,6;t90;p1,50,3;", 70);
    }

    static void promise04PartsToldAheadAndUnlike() {
        fault("s0,1;", 0);
        fault("t100;p0,50,3;s0,0;", 13);
        fault("t100;p0,50,3;s0,1;p0,50,3;", 13);
        for (int parts = 2; parts <= 7; parts++) {
            String ahead = "t100;" + "p0,50,3;".repeat(parts);
            int last = parts - 1;
            fault(ahead + "s0," + last + ";", NONE);
            fault(ahead + "s" + last + ",0;", NONE);
            fault(ahead + "s0," + parts + ";", ahead.length());
            fault(ahead + "s" + parts + ",0;", ahead.length());
            fault(ahead + "s0,999;", ahead.length());
            fault(ahead + "s999,0;", ahead.length());
            fault(ahead + "s" + parts + "," + parts + ";", ahead.length());
            for (int i = 0; i < parts; i++) {
                fault(ahead + "s" + i + "," + i + ";", ahead.length());
                fault(ahead + "s" + i + ",0" + i + ";", ahead.length());
            }
        }
    }

    static void promise04TenSeams() {
        fault(PARTS + "s0,1;".repeat(10), NONE);
        fault(PARTS + "s0,1;".repeat(11), PARTS.length() + 50);
        fault(PARTS + "s1,0;".repeat(10) + "g1;s0,1;", PARTS.length() + 53);
    }

    static void promise04GapUpTo20() {
        item("g0;", true);
        item("g19;", true);
        item("g20;", true);
        item("g21;", false);
        item("g200;", false);
        item("g999;", false);
    }

    static void promise04BoyUpTo999() {
        item("z0;", true);
        item("z998;", true);
        item("z999;", true);
        item("z1000;", false);
    }

    static void promise04BoltFrom1To999() {
        item("c0;", false);
        item("c00;", false);
        item("c000;", false);
        item("c1;", true);
        item("c998;", true);
        item("c999;", true);
        item("c1000;", false);
    }

    static void promise04EachOfSeveralSettings() {
        String[] pairs = {"g20;g21;", "z999;z1000;", "c1;c0;"};
        for (String pair : pairs) {
            String good = pair.substring(0, pair.indexOf(';') + 1);
            String wrong = pair.substring(good.length());
            fault(pair, good.length());
            fault(wrong + good, 0);
            fault(good.repeat(9), NONE);
        }
    }

    static void promise04OneToThreeFigures() {
        // What stands ahead of a number, the number itself, what stands behind it.
        String[][] forms = {{"t", "100", ";"}, {"p", "0", ",50,3;"}, {"p0,", "50", ",3;"}, {"p0,50,", "3", ";"},
            {"s", "1", ",0;"}, {"s0,", "1", ";"}, {"g", "7", ";"}, {"z", "7", ";"}, {"c", "7", ";"}};
        for (String[] form : forms) {
            item(form[0] + form[2], false);
            for (int figures = form[1].length(); figures <= 3; figures++) {
                item(form[0] + "0".repeat(figures - form[1].length()) + form[1] + form[2], true);
            }
            for (int figures = 4; figures <= 12; figures++) {
                item(form[0] + "0".repeat(figures - form[1].length()) + form[1] + form[2], false);
            }
        }
        // Numbers that would be good again if they were too large for an int, or for a long.
        item("z4294967296;", false);
        item("z18446744073709551616;", false);
    }

    static void promise04FiguresAre0To9() {
        for (int b = 0; b < 256; b++) {
            char sign = (char) b;
            boolean figure = b >= '0' && b <= '9';
            // A second ; is an ITEM of its own, and a wrong one.
            fault("z" + sign + ";", figure ? NONE : 0);
            fault("z5" + sign + ";", figure ? NONE : b == ';' ? 3 : 0);
            fault("z55" + sign + ";", figure ? NONE : b == ';' ? 4 : 0);
        }
    }

    static void promise04LettersArePlain() {
        for (int b = 0; b < 256; b++) {
            char letter = (char) b;
            fault(PARTS + letter + "100;", "tzc".indexOf(b) >= 0 ? NONE : PARTS.length());
            fault(PARTS + letter + "5;", "gzc".indexOf(b) >= 0 ? NONE : PARTS.length());
            fault(PARTS + letter + "0,1;", b == 's' ? NONE : PARTS.length());
            fault(PARTS + letter + "0,50,3;", b == 'p' ? NONE : PARTS.length());
        }
    }

    static void promise04NumbersArePartedByCommas() {
        for (int b = 0; b < 256; b++) {
            char sign = (char) b;
            boolean comma = b == ',';
            fault(PARTS + "s0" + sign + "1;", comma ? NONE : PARTS.length());
            fault(PARTS + "p0" + sign + "100,3;", comma ? NONE : PARTS.length());
            fault(PARTS + "p0,100" + sign + "3;", comma ? NONE : PARTS.length());
        }
    }

    static void promise04EachItemEndsWithASemicolon() {
        for (int b = 0; b < 256; b++) {
            char sign = (char) b;
            boolean end = b == ';';
            fault(PARTS + "z100" + sign, end ? NONE : PARTS.length());
            fault(PARTS + "z100" + sign + "g1;", end ? NONE : PARTS.length());
            fault(PARTS + "s0,001" + sign, end ? NONE : PARTS.length());
            fault(PARTS + "p0,50,003" + sign, end ? NONE : PARTS.length());
        }
    }

    static void promise04NotANumberTooManyOrTooFew() {
        String[] wrong = {"t;", "t100,1;", "t100,;", "p0;", "p0,50;", "p0,50,3,1;", "p0,50,3,;", "s0;", "s0,1,2;",
            "s0,1,;", "g1,1;", "z1,1;", "c1,1;", ";", ",", "t,;", "p,,;", "s,;"};
        for (String text : wrong) {
            item(text, false);
        }
        fault("z5;;", 3);
    }

    static void promise04BehindEveryByteOfAText() {
        String text = "t80;p0,199,99;p0,10,0;s1,0;g20;z999;c999;";
        for (int length = 0; length <= text.length(); length++) {
            String begun = text.substring(0, length);
            int lastItem = begun.lastIndexOf(';') + 1;
            fault(begun, lastItem == length ? NONE : lastItem);
        }
    }

    static void promise04InATextOf300Bytes() {
        fault(Boundaries.settings(300), NONE);
        fault(Boundaries.settings(297) + "g1,", 297);
        fault(Boundaries.settings(297) + "g12", 297);
        fault(Boundaries.settings(299) + "x", 299);
        fault(Boundaries.settings(299) + "g", 299);
        fault("x" + Boundaries.settings(299), 0);
        fault("1".repeat(300), 0);
        fault("z" + "1".repeat(299), 0);
    }

    static void promise04TheFirstOfSeveral() {
        fault("t79;t79;", 0);
        fault("t100;t79;p9,1,100;x", 5);
        fault("t100;p0,50,3;s0,0;s0,1;x", 13);
    }

    static void promise04ChangesNothing() {
        Boundaries.unchanged("none", Boundaries::some, SuitByTailors::fault, NONE);
        Boundaries.unchanged("none", Boundaries::full, SuitByTailors::fault, NONE);
        Boundaries.unchanged("one", FaultBoundaryTest::withFault, SuitByTailors::fault, 27);
    }

    /** What is LAID differs in all from what is read ahead of the FAULT. */
    private static SuitByTailors withFault() {
        SuitByTailors x = Boundaries.some();
        x.wipe();
        Checks.tell(x, "t80;t81;p1,199,99;g0;c1;z1;x");
        return x;
    }

    public static void main(String[] args) {
        Boundaries.run(FaultBoundaryTest.class, 4);
    }
}
