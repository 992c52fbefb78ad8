/**
 * The edges that the document names, but for those of the LAY: the least and the most that is taken,
 * as many as there may be, just enough and just too little. Refused calls are in RefusalsTest.
 */
final class EdgesTest {
    private static final Story EMPTY = Stories.EMPTY;
    private static final Story READY = Stories.READY;
    private static final Story TOLD = Stories.TOLD;
    private static final Story CUT = Stories.CUT;
    private static final Story SEWN = Stories.SEWN;
    private static final Story FITTED = Stories.FITTED;
    private static final Story FULL = Stories.FULL;

    private EdgesTest() {
    }

    // ---- of all

    static void anObjectIsUsedFor512Calls(Check c) {
        TailorBench x = CUT.often(503, "bell()").shop();
        c.same("the 511th call", x.bell(), 504);
        c.same("the 512th call", x.cloth(60, 0, 0, 0, false, 1), 1);
        int bells = 511 - FULL.size();
        c.same("the 512th call of a full shop", FULL.often(bells, "bell()").shop().bell(),
                bells + 2);
    }

    // ---- section 1, promises 2 to 5

    static void promise02LeastAndMost(Check c) {
        c.taken(EMPTY, Numbers.edges("cloth(%d, %d, %d, %d, false, %d)",
                new int[] {100, 500, 4, 10, 5},
                new int[][] {{60, 160}, {0, 3000}, {0, 8}, {0, 20}, {1, 9}}));
        c.runs(EMPTY, "cloth(60, 0, 0, 0, false, 1) = 0", "ofCloth(0, 0) = 60.0",
                "ofCloth(0, 1) = 0.0", "ofCloth(0, 2) = 0.0", "ofCloth(0, 3) = 0.0",
                "ofCloth(0, 4) = 0.0", "ofCloth(0, 5) = 1.0");
        c.runs(EMPTY, "cloth(160, 3000, 8, 20, true, 9) = 0", "ofCloth(0, 0) = 160.0",
                "ofCloth(0, 1) = 3000.0", "ofCloth(0, 2) = 0.125", "ofCloth(0, 3) = 20.0",
                "ofCloth(0, 4) = 1.0", "ofCloth(0, 5) = 9.0");
    }

    static void promise02Four(Check c) {
        String call = "cloth(100, 5, 0, 0, true, 1) = ";
        c.runs(EMPTY, "many(0) = 0", call + 0, "many(0) = 1", call + 1, call + 2, call + 3,
                "many(0) = 4", call + Stories.STATE, "many(0) = 4");
    }

    static void promise03LeastAndMost(Check c) {
        c.runs(Story.of("cloth(60, 0, 8, 0, true, 1)", "cloth(160, 3000, 8, 0, true, 1)",
                "cloth(64, 640, 1, 0, true, 1)", "cloth(101, 777, 0, 0, true, 1)"),
                "wash(0) = 0.0", "ofCloth(0, 0) = 52.5", "ofCloth(0, 2) = 0.0",
                "wash(1) = 2625.0", "ofCloth(1, 0) = 140.0",
                "ofCloth(2, 2) = 0.015625", "wash(2) = 630.0", "ofCloth(2, 0) = 63.0",
                "wash(3) = 777.0", "ofCloth(3, 0) = 101.0", "ofCloth(3, 2) = 0.0",
                "wash(1) = 2625.0", "ofCloth(1, 0) = 140.0", "ofCloth(1, 2) = 0.0");
    }

    static void promise04LeastAndMost(Check c) {
        c.taken(EMPTY, Numbers.edges("person(%d, %d, %d, %d)", new int[] {100, 90, 80, 70},
                new int[][] {{50, 200}, {50, 200}, {50, 200}, {50, 200}}));
    }

    static void promise04Six(Check c) {
        String call = "person(50, 60, 70, 200) = ";
        c.runs(EMPTY, call + 0, call + 1, call + 2, call + 3, call + 4, "many(1) = 5", call + 5,
                "many(1) = 6", call + Stories.STATE, "many(1) = 6");
    }

    static void promise05LeastAndMost(Check c) {
        c.runs(FULL, "measure(0, 0, 50) = 96", "measure(0, 0, 200) = 50", "measure(0, 0, 96) = 200",
                "measure(5, 3, 50) = 133", "measure(5, 3, 200) = 50", "measure(5, 1, 200) = 99",
                "measure(5, 2, 50) = 97", "measure(5, 1, 50) = 200", "measure(0, 1, 79) = 80",
                "measure(5, 0, 101) = 140");
    }

    // ---- section 2, promises 6 to 8 and 18

    static void promise06Three(Check c) {
        c.runs(EMPTY, "style() = 0", "style() = 1", "many(2) = 2", "style() = 2", "many(2) = 3",
                "style() = " + Stories.STATE, "many(2) = 3");
    }

    static void promise07LeastAndMost(Check c) {
        c.taken(EMPTY.then("style()"), Numbers.edges("piece(0, 11, 11, %d, %d)", new int[] {20, 2},
                new int[][] {{0, 40}, {1, 4}}));
        c.taken(EMPTY.then("style()"), Numbers.edges("piece(0, %d, %d, 0, 1)", new int[] {11, 11},
                new int[][] {{1, 8, 11, 18, 21, 28, 31, 38}, {1, 8, 11, 18, 21, 28, 31, 38}}));
    }

    static void promise07Five(Check c) {
        String call = "piece(1, 18, 38, 0, 1) = ";
        c.runs(EMPTY.then("style()", "style()"), call + 1, call + 2, call + 3, call + 4, call + 5,
                call + Stories.STATE, "piece(0, 1, 1, 0, 1) = 1");
    }

    static void promise07CountsLeastAndMost(Check c) {
        c.runs(EMPTY.then("person(50, 50, 50, 50)", "style()", "piece(0, 1, 1, 0, 1)")
                .then("order(0, 0, 0)"), "ofOrder(0, 5) = 1");
        c.runs(EMPTY.then("person(50, 50, 50, 50)", "style()").often(5, "piece(0, 1, 1, 0, 4)")
                .then("order(0, 0, 0)"), "ofOrder(0, 5) = 20");
    }

    static void promise08LeastAndMost(Check c) {
        c.runs(CUT.then("pass(1)", "hand(1)", "hand(16)"), "soonest(0) = 2", "sew(0, 1) = 9.5");
        c.runs(CUT.then("pass(1)", "hand(1)", "hand(16)"), "sew(0, 2) = 2.0");
    }

    static void promise08Three(Check c) {
        c.runs(EMPTY, "hand(1) = 0", "hand(16) = 1", "many(3) = 2", "hand(1) = 2", "many(3) = 3",
                "hand(1) = " + Stories.STATE, "many(3) = 3", "free(0) = 0.0", "free(2) = 0.0");
    }

    static void promise18LeastAndMost(Check c) {
        c.runs(Story.of("person(50, 50, 50, 50)", "person(200, 200, 200, 200)", "style()",
                "piece(0, 1, 1, 0, 1)", "piece(0, 38, 38, 40, 4)", "piece(0, 18, 21, 1, 1)"),
                "size(0, 0, 0, false) = 6.25", "size(0, 0, 0, true) = 6.25",
                "size(0, 1, 1, false) = 210.0", "size(0, 1, 1, true) = 200.0",
                "size(0, 2, 0, false) = 50.25", "size(0, 2, 1, true) = 25.0");
    }

    // ---- section 4, promises 9 to 16

    static void promise09LeastAndMostHours(Check c) {
        c.runs(READY, "order(0, 0, 0) = 0", "ofOrder(0, 2) = 0", "order(0, 0, 400) = 1",
                "ofOrder(1, 2) = 400");
        c.runs(READY.often(20, "pass(100)"), "order(0, 0, 0) = 0", "ofOrder(0, 2) = 2000",
                "order(0, 0, 400) = 1", "ofOrder(1, 2) = 2400");
    }

    static void promise09ClockIsCutToAWholeNumber(Check c) {
        Story almost = Story.of("person(50, 50, 50, 50)", "style()", "piece(0, 1, 1, 0, 3)",
                "cloth(100, 3000, 0, 0, true, 1)", "order(0, 0, 0)", "cut(0, -1, 0)");
        c.runs(almost, "clock() = 0.75", "order(0, 0, 7) = 1", "ofOrder(1, 2) = 7");
        c.runs(almost.then("pass(9)"), "clock() = 9.75", "order(0, 0, 7) = 1", "ofOrder(1, 2) = 16");
        c.runs(READY.then("pass(9)"), "order(0, 0, 7) = 0", "ofOrder(0, 2) = 16");
    }

    static void promise09Eight(Check c) {
        c.runs(READY.often(7, "order(0, 0, 1)"), "many(4) = 7", "many(5) = 7",
                "order(0, 0, 1) = 7", "many(4) = 8", "many(5) = 8",
                "order(0, 0, 1) = " + Stories.STATE, "many(4) = 8", "ofOrder(7, 2) = 1");
        c.runs(FULL, "ofOrder(0, 3) = 0", "ofOrder(7, 3) = 5");
    }

    static void promise10LengthJustEnough(Check c) {
        c.runs(TOLD.then("cloth(100, 83, 0, 0, true, 1)"), "lay(0, -1, 1, 0) = 83.0",
                "cut(0, -1, 1) = 0.0", "ofCloth(1, 1) = 0.0");
        // An eighth more than the CLOTH has: 95 * 7 / 8.0 + 3.0 is 86.125.
        Story eighth = Story.of("person(80, 80, 80, 95)", "style()", "piece(0, 2, 37, 0, 1)",
                "cloth(100, 86, 0, 0, true, 1)", "cloth(100, 87, 0, 0, true, 1)", "order(0, 0, 0)");
        c.runs(eighth, "lay(0, -1, 0, 0) = 86.125", "cut(0, -1, 0) = -3.0", "clock() = 0.0",
                "ofOrder(0, 3) = 0", "cut(0, -1, 1) = 0.875", "clock() = 0.25");
        c.runs(TOLD.then("order(0, 0, 0)", "cloth(60, 166, 0, 0, true, 1)"),
                "cut(0, 1, 1) = 0.0", "many(6) = 2");
        c.runs(TOLD.then("order(0, 0, 0)", "cloth(60, 165, 0, 0, true, 1)"),
                "cut(0, 1, 1) = -3.0", "cut(0, -1, 1) = 82.0", "cut(1, -1, 1) = -3.0");
    }

    static void promise10LengthIsUsedUp(Check c) {
        c.runs(TOLD.then("order(0, 0, 0)", "order(0, 0, 0)", "cloth(100, 166, 0, 0, true, 1)"),
                "cut(0, -1, 1) = 83.0", "cut(2, -1, 1) = 0.0", "cut(1, -1, 1) = -3.0",
                "best(1) = 0", "lay(1, -1, 1, 0) = 83.0");
    }

    static void promise10NoLayIsToldFirst(Check c) {
        Story wide = Story.of("person(200, 50, 50, 160)", "style()", "piece(0, 7, 38, 0, 1)",
                "cloth(160, 0, 0, 0, false, 1)", "cloth(160, 0, 0, 0, true, 1)", "order(0, 0, 0)");
        c.runs(wide, "cut(0, -1, 0) = -2.0", "measure(0, 3, 157) = 160", "cut(0, -1, 0) = -3.0",
                "cut(0, -1, 1) = -2.0");
    }

    static void promise10ClockIsMoreByPieces(Check c) {
        c.runs(TOLD.then("order(0, 0, 0)", "order(0, 0, 0)"), "cut(1, -1, 0) = 917.0",
                "clock() = 0.5", "cut(2, 0, 0) = 834.0", "clock() = 1.5");
        Story most = EMPTY.then("person(50, 50, 50, 50)", "style()", "cloth(160, 3000, 0, 0, true, 1)")
                .often(5, "piece(0, 1, 1, 0, 4)").then("order(0, 0, 0)", "order(0, 0, 0)");
        c.runs(most, "lay(0, 1, 0, 2) = 3.0", "cut(0, 1, 0) = 2972.25",
                "clock() = 10.0");
    }

    static void promise10To14ClockIsHeld(Check c) {
        Story late = SEWN.then("order(0, 0, 0)").often(19, "pass(100)");
        c.runs(late.then("pass(99)"), "clock() = 1999.5", "cut(1, -1, 0) = 834.0",
                "clock() = 2000.0", "pass(1) = 2000.0");
        c.runs(late.then("pass(100)"), "clock() = 2000.0", "cut(1, -1, 0) = 834.0",
                "clock() = 2000.0");
        c.runs(late.then("pass(98)"), "cut(1, -1, 0) = 834.0", "clock() = 1999.0",
                "pass(1) = 2000.0", "pass(1) = 2000.0", "pass(100) = 2000.0");
        c.runs(late.then("pass(98)"), "pass(1) = 1999.5", "pass(1) = 2000.0");
        c.runs(late.then("pass(99)", "measure(0, 0, 84)"), "tight(0, true) = 1.0", "fit(0) = 1",
                "clock() = 2000.0");
        c.runs(late.then("pass(98)", "measure(0, 0, 84)"), "fit(0) = 1", "clock() = 1999.5");
        c.runs(late.then("pass(99)", "measure(0, 0, 60)"), "tight(0, false) = -5.0", "fit(0) = 2",
                "clock() = 2000.0");
        c.runs(late.then("pass(100)", "measure(0, 0, 60)"), "fit(0) = 2", "clock() = 2000.0");
    }

    static void promise11BeginsAtTheGreaterOne(Check c) {
        Story two = TOLD.then("order(0, 0, 0)", "cut(0, 1, 0)");
        c.runs(two, "clock() = 1.0", "free(0) = 0.0", "sew(0, 0) = 2.0", "free(0) = 2.0",
                "sew(1, 0) = 3.0", "free(0) = 3.0", "ready(0) = 2.0");
        c.runs(two.then("sew(0, 0)", "pass(1)"), "clock() = 2.0", "free(0) = 2.0",
                "sew(1, 0) = 3.0");
        c.runs(two.then("sew(0, 0)", "pass(2)"), "clock() = 3.0", "free(0) = 2.0",
                "sew(1, 0) = 4.0");
    }

    static void promise11SewnBeyondTheLastHour(Check c) {
        c.runs(CUT.often(20, "pass(100)"), "sew(0, 0) = 2001.0", "ready(0) = 2001.0",
                "free(0) = 2001.0", "pass(100) = 2000.0", "fit(0) = -2", "ofOrder(0, 3) = 2");
        // READY at 2000.0 is reached.
        c.runs(CUT.often(19, "pass(100)").then("pass(98)"), "clock() = 1998.5", "sew(0, 0) = 1999.5",
                "fit(0) = -2", "pass(1) = 1999.5", "fit(0) = 0");
        c.runs(CUT.often(19, "pass(100)").then("hand(2)", "pass(96)"), "clock() = 1996.5",
                "sew(0, 1) = 2000.5", "pass(9) = 2000.0", "fit(0) = -2");
        c.runs(CUT.often(19, "pass(100)").then("hand(2)", "pass(95)"), "sew(0, 1) = 1999.5",
                "pass(9) = 2000.0", "fit(0) = 0");
    }

    static void promise12ReadyNoLaterThanClock(Check c) {
        c.runs(SEWN, "ready(0) = 1.5", "clock() = 0.5", "fit(0) = -2", "pass(1) = 1.5",
                "fit(0) = 0", "ofOrder(0, 6) = 0");
        // By PACE 1.125 it is READY at 0.5 + 1.0 / 1.125, by 0.875 a little after 1.5.
        c.runs(CUT.then("hand(9)", "sew(0, 1)", "pass(1)"), "fit(0) = 0");
        c.runs(CUT.then("hand(7)", "sew(0, 1)", "pass(1)"), "fit(0) = -2", "ofOrder(0, 6) = -1",
                "ofOrder(0, 3) = 2", "pass(1) = 2.5", "fit(0) = 0");
    }

    /** An ORDER of a PIECE of an eighth of the chest and one of an eighth of the waist, READY. */
    private static Story eighths() {
        return Story.of("person(100, 100, 100, 100)", "style()", "piece(0, 1, 31, 0, 1)",
                "piece(0, 11, 31, 0, 1)", "cloth(160, 1000, 0, 0, false, 1)", "hand(8)",
                "order(0, 0, 0)", "cut(0, -1, 0)", "sew(0, 0)", "pass(1)");
    }

    static void promise12TightAtItsEdges(Check c) {
        String[][] rows = {
            // chest, waist, greatest, smallest, told, CLOCK
            {"100", "100", "0.0", "0.0", "0", "1.5"},
            {"104", "100", "0.5", "0.0", "0", "1.5"},
            {"105", "100", "0.625", "0.0", "1", "2.5"},
            {"100", "105", "0.625", "0.0", "1", "2.5"},
            {"124", "100", "3.0", "0.0", "1", "2.5"},
            {"125", "100", "3.125", "0.0", "3", "1.5"},
            {"100", "125", "3.125", "0.0", "3", "1.5"},
            {"68", "100", "0.0", "-4.0", "0", "1.5"},
            {"67", "100", "0.0", "-4.125", "2", "2.0"},
            {"100", "67", "0.0", "-4.125", "2", "2.0"},
            {"67", "67", "-4.125", "-4.125", "2", "2.0"},
            {"68", "68", "-4.0", "-4.0", "0", "1.5"},
            {"104", "67", "0.5", "-4.125", "2", "2.0"},
            {"67", "105", "0.625", "-4.125", "1", "2.5"},
            {"124", "67", "3.0", "-4.125", "1", "2.5"},
            {"67", "125", "3.125", "-4.125", "3", "1.5"}};
        for (String[] row : rows) {
            String state = row[4].equals("3") ? "5" : "3";
            c.runs(eighths().then("measure(0, 0, " + row[0] + ")", "measure(0, 1, " + row[1] + ")"),
                    "ofOrder(0, 6) = -1", "tight(0, true) = " + row[2],
                    "tight(0, false) = " + row[3], "fit(0) = " + row[4], "clock() = " + row[5],
                    "ofOrder(0, 6) = " + row[4], "ofOrder(0, 3) = " + state,
                    "tight(0, true) = " + row[2]);
        }
    }

    /** One PIECE of COUNT 1, so 25 less the CLOTH; LONG is the height and 3.0. */
    private static Story priced(int height, int price) {
        return Story.of("person(80, 80, 80, " + height + ")", "style()", "piece(0, 1, 38, 0, 1)",
                "cloth(100, 1000, 0, 0, true, " + price + ")", "hand(16)", "order(0, 0, 400)",
                "order(0, 0, 400)");
    }

    static void promise13NextWholeNumberOfTheCloth(Check c) {
        String[] fit = {"sew(0, 0)", "pass(1)", "fit(0)"};
        c.runs(priced(97, 1).then("cut(0, -1, 0)").then(fit), "give(0) = 24", "many(11) = 24");
        c.runs(priced(98, 1).then("cut(0, -1, 0)").then(fit), "give(0) = 23");
        c.runs(priced(96, 1).then("cut(0, -1, 0)").then(fit), "give(0) = 24");
        c.runs(priced(50, 1).then("cut(0, -1, 0)").then(fit), "give(0) = 24");
        c.runs(priced(97, 9).then("cut(0, -1, 0)").then(fit), "give(0) = 16");
        c.runs(priced(98, 9).then("cut(0, -1, 0)").then(fit), "give(0) = 15");
        c.runs(priced(200, 9).then("cut(0, -1, 0)").then(fit), "give(0) = 6");
    }

    static void promise13AnEighthAboveAWholeNumber(Check c) {
        // A height of 111 by 7 eighths is 97.125, so that NEEDS are 100.125; of 110 they are 99.25.
        Story eighth = Story.of("person(80, 80, 80, 111)", "style()", "piece(0, 1, 37, 0, 1)",
                "cloth(100, 1000, 0, 0, true, 1)", "hand(16)", "order(0, 0, 400)");
        String[] fit = {"cut(0, -1, 0)", "sew(0, 0)", "pass(1)", "fit(0)"};
        c.runs(eighth.then(fit), "ofCloth(0, 1) = 899.875", "give(0) = 23");
        c.runs(eighth.then("measure(0, 3, 110)").then(fit), "ofCloth(0, 1) = 900.75",
                "give(0) = 24");
    }

    static void promise13HalfForEachOfTwo(Check c) {
        // On a CLOTH of 100 by a PIECE WIDE 73 there is a ROW for each: NEEDS are both LONGS.
        String[] others = {"style()", "piece(1, 17, 38, 0, 1)", "order(0, 1, 400)",
            "order(0, 1, 400)", "cut(2, 3, 0)", "sew(2, 0)", "sew(3, 0)", "pass(2)", "fit(2)",
            "fit(3)"};
        c.runs(priced(97, 1).then(others), "ofCloth(0, 1) = 800.0", "give(2) = 24", "give(3) = 24",
                "many(11) = 48");
        c.runs(priced(98, 1).then(others), "give(3) = 23", "many(11) = 23", "give(2) = 23",
                "many(11) = 46");
        c.runs(priced(122, 2).then(others), "ofCloth(0, 1) = 750.0", "give(2) = 22", "give(3) = 22");
        c.runs(priced(50, 9).then(others), "ofCloth(0, 1) = 894.0", "give(2) = 20");
    }

    static void promise13WholeEightsLate(Check c) {
        // CUTTING one PIECE takes 0.25, so that the CLOCK is at a quarter; the CLOTH costs 1.
        Story quarter = Story.of("person(80, 80, 80, 50)", "style()", "piece(0, 1, 38, 0, 1)",
                "cloth(100, 1000, 0, 0, true, 1)", "hand(16)");
        Story due2 = quarter.then("order(0, 0, 2)", "cut(0, -1, 0)", "sew(0, 0)");
        c.runs(due2.then("pass(1)", "fit(0)"), "clock() = 1.25", "give(0) = 24");
        c.runs(due2.then("pass(2)", "fit(0)"), "clock() = 2.25", "give(0) = 24");
        c.runs(due2.then("pass(9)", "fit(0)"), "clock() = 9.25", "give(0) = 24");
        c.runs(due2.then("pass(10)", "fit(0)"), "clock() = 10.25", "give(0) = 21");
        c.runs(due2.then("pass(17)", "fit(0)"), "clock() = 17.25", "give(0) = 21");
        c.runs(due2.then("pass(18)", "fit(0)"), "clock() = 18.25", "give(0) = 18");
        // Four of them CUT: the CLOCK is at a whole hour.
        Story whole = quarter.often(4, "order(0, 0, 2)").then("cut(0, 1, 0)", "cut(2, 3, 0)",
                "sew(0, 0)", "sew(1, 0)");
        c.runs(whole.then("pass(1)", "fit(0)"), "clock() = 2.0", "give(0) = 24");
        c.runs(whole.then("pass(9)", "fit(0)"), "clock() = 10.0", "give(0) = 21");
        c.runs(whole.then("pass(17)", "fit(0)"), "clock() = 18.0", "give(0) = 18");
        // 7.75 and 15.75 late.
        Story three = quarter.often(3, "order(0, 0, 2)").then("cut(0, 1, 0)", "cut(2, -1, 0)",
                "sew(0, 0)");
        c.runs(three.then("pass(9)", "fit(0)"), "clock() = 9.75", "give(0) = 24");
        c.runs(three.then("pass(17)", "fit(0)"), "clock() = 17.75", "give(0) = 21");
    }

    static void promise13DueBeyondTheClock(Check c) {
        Story late = READY.often(19, "pass(100)").then("order(0, 0, 400)", "order(0, 0, 92)",
                "order(0, 0, 91)", "cut(0, 1, 0)", "cut(2, -1, 0)", "sew(0, 0)", "sew(1, 0)",
                "sew(2, 0)", "pass(100)");
        c.runs(late, "clock() = 2000.0", "ofOrder(0, 2) = 2300", "ofOrder(1, 2) = 1992", "fit(0) = 0",
                "fit(1) = 0", "fit(2) = 0", "give(0) = 29", "give(1) = 26", "give(2) = 25");
    }

    static void promise13PurseAboutZero(Check c) {
        c.runs(TOLD, "many(11) = 0", "cut(0, -1, 0) = 917.0", "many(11) = 0");
        // 28 without lateness: 9 times 8.0 hours leave 1, 10 times -2.
        c.runs(SEWN.then("pass(72)", "fit(0)"), "give(0) = 1", "many(11) = 1");
        c.runs(SEWN.then("pass(80)", "fit(0)"), "give(0) = -2", "many(11) = -2");
        c.runs(FITTED, "clock() = 1.5", "give(0) = 28", "many(11) = 28");
    }

    static void promise14LeastAndMost(Check c) {
        c.runs(EMPTY, "pass(1) = 1.0", "pass(100) = 101.0", "clock() = 101.0");
        c.runs(EMPTY.often(19, "pass(100)").then("pass(99)"), "clock() = 1999.0",
                "pass(1) = 2000.0", "pass(1) = 2000.0", "clock() = 2000.0");
        c.runs(EMPTY.often(19, "pass(100)").then("pass(99)"), "pass(2) = 2000.0");
        c.runs(EMPTY.often(19, "pass(100)"), "pass(100) = 2000.0");
    }

    static void promise15And16ShutAndBell(Check c) {
        c.runs(EMPTY, "many(12) = 0", "shut(false) = false", "many(12) = 0", "shut(true) = false",
                "many(12) = 1", "shut(true) = true", "shut(false) = true", "shut(false) = false");
        c.runs(EMPTY, "many(13) = 0", "bell() = 1", "many(13) = 1", "bell() = 2", "shut(true) = false",
                "bell() = 3", "many(13) = 3");
        // What is refused by an exception is not REFUSED by the BELL, nor does that open the shop.
        c.runs(TOLD, "shut(true) = false", "cut(0, -1, 0) = " + Stories.STATE, "many(13) = 0",
                "bell() = 1", "cut(0, -1, 0) = " + Stories.STATE, "many(12) = 1");
    }

    static void promise15AllElseGoesOnWhileShut(Check c) {
        c.runs(SEWN.then("shut(true)"), "cloth(60, 9, 8, 0, true, 1) = 1", "wash(1) = 7.875",
                "person(50, 50, 50, 50) = 1", "measure(0, 0, 81) = 80", "style() = 1",
                "piece(1, 1, 1, 0, 1) = 1", "hand(1) = 1", "order(0, 1, 0) = 1", "pass(1) = 1.5",
                "bell() = 1", "ofCloth(1, 2) = 0.0", "size(0, 0, 0, false) = 21.25",
                "ofOrder(0, 3) = 2", "tight(0, true) = 0.25", "ready(0) = 1.5", "free(0) = 1.5",
                "clock() = 1.5", "many(4) = 2", "lay(0, 1, 0, 2) = 1.0", "best(0) = 0",
                "mate(0, 0) = 1", "soonest(1) = 0");
    }

    // ---- promises 19 to 24

    static void promises19To21AheadOfEach(Check c) {
        c.runs(TOLD, "ofOrder(0, 4) = -1", "ofOrder(0, 6) = -1", "ofOrder(0, 7) = -1",
                "ready(0) = -1.0", "measure(0, 0, 100) = 80", "tight(0, true) = 0.0",
                "tight(0, false) = 0.0");
        c.runs(CUT, "ofOrder(0, 4) = 0", "ofOrder(0, 6) = -1", "ofOrder(0, 7) = -1",
                "ready(0) = -1.0", "measure(0, 0, 88) = 80", "tight(0, true) = 2.0",
                "tight(0, false) = 2.0", "measure(0, 0, 72) = 88", "tight(0, true) = -2.0");
        c.runs(SEWN, "ofOrder(0, 4) = 0", "ofOrder(0, 6) = -1", "ofOrder(0, 7) = 0",
                "ready(0) = 1.5");
        c.runs(FITTED, "ofOrder(0, 6) = 0", "ready(0) = 1.5");
        c.runs(Stories.GIVEN, "ofOrder(0, 4) = 0", "ofOrder(0, 6) = 0", "ofOrder(0, 7) = 0",
                "ready(0) = 1.5", "measure(0, 0, 88) = 80", "tight(0, true) = 2.0");
        c.runs(Stories.SPOILED, "ofOrder(0, 6) = 3", "ready(0) = 1.5", "tight(0, false) = 30.0",
                "measure(0, 0, 80) = 200", "tight(0, false) = 0.0");
    }

    static void promise17To24FirstAndLastOfAll(Check c) {
        c.runs(FULL, "ofCloth(0, 0) = 150.0", "ofCloth(0, 5) = 3.0", "ofCloth(3, 0) = 160.0",
                "ofCloth(3, 5) = 5.0", "size(0, 0, 0, true) = 88.0", "size(2, 0, 5, true) = 133.0",
                "size(1, 4, 5, true) = 83.125", "ofOrder(0, 0) = 0", "ofOrder(7, 7) = 1",
                "tight(0, true) = 0.0", "tight(7, true) = 9.75", "ready(0) = -1.0",
                "ready(7) = 7.5", "free(0) = 6.5", "free(2) = 49.5", "many(13) = 1");
    }

    // ---- promises 26 to 29

    static void promise26BestAtItsEdges(Check c) {
        Story none = Story.of("person(80, 80, 80, 160)", "style()", "piece(0, 2, 34, 4, 2)",
                "order(0, 0, 0)");
        c.runs(none, "best(0) = -1");
        c.runs(none.then("cloth(100, 82, 0, 0, true, 1)"), "best(0) = -1",
                "cloth(100, 83, 0, 0, true, 9) = 1", "best(0) = 1", "cut(0, -1, 1) = 0.0",
                "best(0) = -1");
        // 2 * 83 and 1 * 166 are the same; STRIPE 17 makes it 170, and 85 of PRICE 2.
        c.runs(none.then("cloth(100, 83, 0, 0, true, 2)", "cloth(60, 3000, 0, 0, true, 1)"),
                "measure(0, 0, 160) = 80", "lay(0, -1, 0, 0) = 83.0", "lay(0, -1, 1, 0) = 166.0",
                "best(0) = 0");
        c.runs(none.then("cloth(60, 3000, 0, 0, true, 1)", "cloth(100, 83, 0, 0, true, 2)"),
                "measure(0, 0, 160) = 80", "best(0) = 0");
        c.runs(none.then("cloth(100, 85, 0, 17, true, 2)", "cloth(60, 3000, 0, 0, true, 1)"),
                "measure(0, 0, 160) = 80", "lay(0, -1, 0, 0) = 85.0", "best(0) = 1");
        // The cheapest one has no LAY.
        c.runs(none.then("cloth(60, 3000, 0, 0, true, 1)", "cloth(80, 3000, 0, 0, true, 9)"),
                "measure(0, 0, 200) = 80", "best(0) = 0", "order(0, 0, 0) = 1", "best(1) = 0");
    }

    static void promise26BestWhenOnlyTheLastWillDo(Check c) {
        Story four = Story.of("person(200, 80, 80, 160)", "style()", "piece(0, 4, 38, 0, 1)",
                "order(0, 0, 0)", "cloth(102, 3000, 0, 0, true, 1)", "cloth(103, 162, 0, 0, true, 1)",
                "cloth(160, 102, 0, 0, false, 1)");
        c.runs(four, "lay(0, -1, 0, 0) = -1.0", "lay(0, -1, 1, 0) = 163.0", "best(0) = -1",
                "cloth(103, 163, 0, 0, true, 9) = 3", "best(0) = 3");
    }

    static void promise27MateAtItsEdges(Check c) {
        c.runs(TOLD, "mate(0, 0) = -1", "order(0, 0, 0) = 1", "mate(0, 0) = 1", "mate(1, 0) = 0",
                "order(0, 0, 0) = 2", "mate(0, 0) = 1", "mate(1, 0) = 0", "mate(2, 0) = 0");
        // Two of WIDE 48 in a ROW: nothing is saved, however many there are.
        c.runs(TOLD.then("order(0, 0, 0)", "order(0, 0, 0)", "measure(0, 0, 176)"),
                "lay(0, -1, 0, 0) = 83.0", "lay(0, 1, 0, 0) = 166.0", "mate(0, 0) = -1");
        // The LENGTH does not matter.
        c.runs(TOLD.then("order(0, 0, 0)", "cloth(100, 0, 0, 0, true, 1)"), "mate(0, 1) = 1",
                "cut(0, 1, 1) = -3.0");
    }

    static void promise27TheLeastThatIsSaved(Check c) {
        // On 100: the one is 60 by 83, the other one 40 by 23 and 50 by 22.875, alone in a ROW. Both:
        // the 40 goes beside the 60, so that the 50 begins a ROW an eighth lower.
        Story eighth = Story.of("person(80, 80, 159, 160)", "style()", "piece(0, 5, 34, 28, 1)",
                "style()", "piece(1, 3, 31, 28, 1)", "piece(1, 4, 21, 28, 1)", "order(0, 0, 0)",
                "order(0, 1, 0)", "cloth(100, 1000, 0, 0, true, 1)");
        c.runs(eighth, "lay(0, -1, 0, 0) = 83.0", "lay(1, -1, 0, 0) = 23.0",
                "lay(0, 1, 0, 0) = 105.875", "mate(0, 0) = 1", "mate(1, 0) = 0");
        // As high as the 40, the 50 goes first, and its ROW stays.
        c.runs(eighth.then("measure(0, 2, 160)"), "lay(1, -1, 0, 0) = 23.0",
                "lay(0, 1, 0, 0) = 106.0", "mate(0, 0) = -1", "mate(1, 0) = -1");
    }

    static void promise27NothingIsSavedWhereMoreIsNeeded(Check c) {
        // 51 by 43 and 27 by 63 lie in one ROW, as do 44 by 163 and 63 by 43, TURNED. Both: the 27
        // takes the ROOM beside the 44, and the others are left with a ROW each.
        Story more = Story.of("person(80, 80, 80, 160)", "style()", "piece(0, 4, 4, 32, 1)",
                "piece(0, 2, 33, 16, 1)", "style()", "piece(1, 6, 4, 0, 1)",
                "piece(1, 4, 38, 4, 1)", "order(0, 0, 0)", "order(0, 1, 0)",
                "cloth(100, 3000, 0, 0, false, 1)");
        c.runs(more, "lay(0, -1, 0, 0) = 63.0", "lay(1, -1, 0, 0) = 163.0",
                "lay(0, 1, 0, 0) = 249.0", "mate(0, 0) = -1", "mate(1, 0) = -1");
    }

    static void promise27MateOfEveryState(Check c) {
        for (Story story : new Story[] {TOLD, CUT, SEWN, FITTED, Stories.GIVEN, Stories.SPOILED}) {
            String state = Story.answer(story.shop(), "ofOrder(0, 3)");
            c.runs(story.then("order(0, 0, 0)", "measure(0, 0, 80)"), "ofOrder(0, 3) = " + state,
                    "mate(0, 0) = 1", "mate(1, 0) = " + (state.equals("0") ? "0" : "-1"));
        }
    }

    static void promise28SoonestAtItsEdges(Check c) {
        Story none = Story.of("person(80, 80, 80, 160)", "style()", "piece(0, 2, 34, 4, 2)",
                "cloth(100, 1000, 0, 0, true, 1)", "order(0, 0, 0)", "order(0, 0, 0)");
        c.runs(none, "soonest(0) = -1", "hand(1) = 0", "soonest(0) = 0", "hand(1) = 1",
                "soonest(0) = 0", "hand(2) = 2", "soonest(0) = 2");
        // CUT at 1.0; by PACE 2.0 READY at 1.5, and another one at 2.0, as by PACE 1.0.
        c.runs(none.then("hand(16)", "hand(8)", "cut(0, 1, 0)", "sew(0, 0)"), "ready(0) = 1.5",
                "soonest(1) = 0");
        c.runs(none.then("hand(8)", "hand(16)", "cut(0, 1, 0)", "sew(0, 1)"), "ready(0) = 1.5",
                "soonest(1) = 0");
        c.runs(none.then("hand(7)", "hand(16)", "cut(0, 1, 0)", "sew(0, 1)"), "soonest(1) = 1");
        for (Story story : new Story[] {TOLD, CUT, SEWN, FITTED, Stories.GIVEN, Stories.SPOILED}) {
            c.runs(story.then("shut(true)", "hand(1)"), "soonest(0) = 0");
            c.runs(story.then("shut(true)", "hand(16)"), "soonest(0) = 1");
        }
    }

    static void promise29DigestOfWholeNumbersThatAreCut(Check c) {
        // WIDTH 59.0625 and LENGTH 99.421875 times 64 are whole; CLOCK, SHRINK and the rest are 0.
        long d = 58315L;
        long[] all = {1, 0, 0, 1, 0, 0, 0, 0, 0, 0, 0, 0, 0, 0, 3780, 6363, 0, 0, 0};
        for (long one : all) {
            d = d * 31L + one;
        }
        c.runs(Story.of("cloth(60, 101, 1, 0, true, 1)", "hand(1)", "wash(0)"), "digest() = " + d);
    }

    static void promise29DigestOfOneOrder(Check c) {
        // TIGHT 2.0, READY 1.5, best 0, soonest 0, NEEDS 83.0 of CLOTH 0, FREE 1.5, CLOCK 0.5.
        long d = 58315L;
        long[] all = {1, 1, 1, 1, 1, 0, 0, 1, 0, 0, 0, 0, 1, 1, 6400, 917 * 64, 0,
            0, 0, 0, 2, 0, 2, -1, 0, 128, 128, 96, 0, 0, 83 * 64, 96, 32};
        for (long one : all) {
            d = d * 31L + one;
        }
        c.runs(SEWN.then("measure(0, 0, 88)", "shut(true)", "bell()"), "digest() = " + d);
    }

    static void promise29DigestOfFractions(Check c) {
        // NEEDS is 83.0 / 0.984375, times 64 5396.3..; without a LAY it is -64.
        long d = 58315L;
        long[] all = {2, 1, 1, 0, 1, 1, 0, 0, 0, 0, 0, 0, 0, 0, 6400, 64000, 1, 3840, 64000, 0,
            0, 0, 0, 0, -1, 1, -1, -1, 0, 0, -64, 0, -1, 5396, -64, 0};
        for (long one : all) {
            d = d * 31L + one;
        }
        c.runs(Story.of("person(160, 80, 80, 160)", "style()", "piece(0, 4, 34, 0, 1)",
                "order(0, 0, 0)", "cloth(100, 1000, 1, 0, true, 1)", "cloth(60, 1000, 0, 0, true, 1)"),
                "digest() = " + d);
    }
}
