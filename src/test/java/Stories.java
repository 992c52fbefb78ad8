/** Shops that many tests begin with. */
final class Stories {
    static final String INDEX = "IndexOutOfBoundsException";
    static final String ARGUMENT = "IllegalArgumentException";
    static final String STATE = "IllegalStateException";

    static final Story EMPTY = Story.of();

    /**
     * One of 80, 80, 80 and 160; a STYLE of one PIECE of BODY 21.0 and TALL 80.0, COUNT 2; a CLOTH
     * of 100 by 1000 that does not shrink, on which the PIECE is WIDE 24.0 and LONG 83.0; and a HAND
     * of PACE 1.0.
     */
    static final Story READY = Story.of("person(80, 80, 80, 160)", "style()",
            "piece(0, 2, 34, 4, 2)", "cloth(100, 1000, 0, 0, false, 2)", "hand(8)");

    /** That with an ORDER, DUE at 0. */
    static final Story TOLD = READY.then("order(0, 0, 0)");

    /** CUTTING takes 0.5. */
    static final Story CUT = TOLD.then("cut(0, -1, 0)");

    /** It is READY at 1.5, and the CLOCK is at 0.5. */
    static final Story SEWN = CUT.then("sew(0, 0)");

    static final Story FITTED = SEWN.then("pass(1)", "fit(0)");

    static final Story GIVEN = FITTED.then("give(0)");

    static final Story SPOILED = SEWN.then("pass(1)", "measure(0, 0, 200)", "fit(0)");

    /** As many of all as there may be, with ORDERS in every STATE. */
    static final Story FULL = Story.of(
            "cloth(150, 3000, 2, 0, false, 3)", "cloth(140, 2000, 0, 7, true, 9)",
            "cloth(60, 3000, 8, 20, false, 1)", "cloth(160, 0, 0, 0, true, 5)",
            "person(96, 80, 100, 176)", "person(110, 104, 112, 182)", "person(50, 50, 50, 50)",
            "person(200, 200, 200, 200)", "person(88, 66, 92, 160)", "person(101, 99, 97, 133)",
            "style()", "style()", "style()",
            "piece(0, 2, 34, 8, 2)", "piece(0, 13, 32, 4, 1)",
            "piece(1, 1, 31, 0, 1)", "piece(1, 12, 32, 1, 4)", "piece(1, 23, 33, 2, 2)",
            "piece(1, 4, 34, 3, 3)", "piece(1, 15, 35, 4, 1)",
            "piece(2, 18, 38, 40, 1)",
            "hand(16)", "hand(8)", "hand(1)",
            "order(0, 0, 10)", "order(1, 1, 20)", "order(4, 0, 0)", "order(0, 1, 400)",
            "order(5, 2, 5)", "order(1, 0, 30)", "order(4, 2, 0)", "order(5, 0, 8)",
            "cut(2, 3, 0)", "cut(4, 6, 0)", "cut(5, 7, 1)",
            "sew(3, 2)", "sew(4, 0)", "sew(5, 0)", "sew(6, 1)", "sew(7, 1)", "pass(20)",
            "fit(5)", "fit(6)", "give(6)", "measure(5, 0, 140)", "fit(7)", "bell()");

    private Stories() {
    }
}
