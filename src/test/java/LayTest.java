/** Promise 25 and section 3: how PIECES lie. */
final class LayTest {
    private static final int NONE = Shops.NONE;

    private LayTest() {
    }

    /** ORDER 0 of these PIECES on a new CLOTH: NEEDS, ROWS, TURNED. */
    private static void lies(Check c, String what, int width, int stripe, boolean isNap,
            double[] due, int[]... pieces) {
        TailorBench x = Shops.orderOf(pieces);
        x.cloth(width, 0, 0, stripe, isNap, 1);
        c.same(what + ": NEEDS", x.lay(0, NONE, 0, 0), due[0]);
        c.same(what + ": ROWS", x.lay(0, NONE, 0, 2), due[1]);
        c.same(what + ": TURNED", x.lay(0, NONE, 0, 3), due[2]);
    }

    private static double[] due(double needs, int rows, int turned) {
        return new double[] {needs, rows, turned};
    }

    static void promise25EachCountTimes(Check c) {
        lies(c, "4 of 25", 100, 0, true, due(83, 1, 0), Shops.sized(25, 83, 4));
        lies(c, "4 of 25.25", 100, 0, true, due(166, 2, 0), Shops.sized(25.25, 83, 4));
        lies(c, "4 of 51", 100, 0, true, due(332, 4, 0), Shops.sized(51, 83, 4));
    }

    static void promise25GreatestLongGoesFirst(Check c) {
        lies(c, "33 then 83", 100, 0, true, due(83, 1, 0),
                Shops.sized(33, 33, 1), Shops.sized(53, 83, 1));
        lies(c, "33 then 83, each in a ROW", 100, 0, true, due(116, 2, 0),
                Shops.sized(60, 33, 1), Shops.sized(53, 83, 1));
    }

    static void promise25GreatestWideGoesFirstOfEqualLong(Check c) {
        lies(c, "40, 30, 60, 70", 100, 0, true, due(166, 2, 0), Shops.sized(40, 83, 1),
                Shops.sized(30, 83, 1), Shops.sized(60, 83, 1), Shops.sized(70, 83, 1));
        lies(c, "70, 40, 60, 30", 100, 0, true, due(166, 2, 0), Shops.sized(70, 83, 1),
                Shops.sized(40, 83, 1), Shops.sized(60, 83, 1), Shops.sized(30, 83, 1));
    }

    static void promise25FirstRowWithRoomIsTaken(Check c) {
        lies(c, "two rows", 100, 0, true, due(156, 2, 0), Shops.sized(60, 83, 1),
                Shops.sized(50, 73, 1), Shops.sized(40, 63, 1), Shops.sized(50, 53, 1));
    }

    static void promise25TurnedIntoARow(Check c) {
        int[][] pieces = {Shops.sized(40, 83, 1), Shops.sized(70, 53, 1)};
        lies(c, "without NAP", 100, 0, false, due(83, 1, 1), pieces);
        lies(c, "with NAP", 100, 0, true, due(136, 2, 0), pieces);
        lies(c, "ROOM and HEIGHT just enough", 100, 0, false, due(83, 1, 1),
                Shops.sized(47, 83, 1), Shops.sized(83, 53, 1));
        lies(c, "ROOM too small", 100, 0, false, due(136, 2, 0),
                Shops.sized(47.25, 83, 1), Shops.sized(83, 53, 1));
        lies(c, "HEIGHT too small", 100, 0, false, due(136, 2, 0),
                Shops.sized(47, 83, 1), Shops.sized(83.25, 53, 1));
    }

    static void promise25TurnedTakesRoomOfLong(Check c) {
        lies(c, "ROOM of 7 is left", 100, 0, false, due(96, 2, 1), Shops.sized(40, 83, 1),
                Shops.sized(70, 53, 1), Shops.sized(13, 13, 1));
        lies(c, "ROOM of 27 is left", 100, 0, false, due(83, 1, 1), Shops.sized(40, 83, 1),
                Shops.sized(70, 33, 1), Shops.sized(27, 13, 1));
    }

    static void promise25UprightInALaterRowGoesAheadOfTurned(Check c) {
        lies(c, "upright", 100, 0, false, due(156, 2, 0), Shops.sized(70, 83, 1),
                Shops.sized(50, 73, 1), Shops.sized(40, 23, 1));
    }

    static void promise25NewRowIsUprightWhereItCan(Check c) {
        lies(c, "slim", 100, 0, false, due(83, 1, 0), Shops.sized(13, 83, 1));
        lies(c, "as wide as WIDTH", 83, 0, false, due(33, 1, 0), Shops.sized(83, 33, 1));
        lies(c, "with NAP as wide as WIDTH", 83, 0, true, due(33, 1, 0), Shops.sized(83, 33, 1));
    }

    static void promise25NewRowIsTurnedWhereItMust(Check c) {
        lies(c, "too wide", 60, 0, false, due(80, 1, 1), Shops.sized(80, 53, 1));
        lies(c, "as long as WIDTH", 63, 0, false, due(80, 1, 1), Shops.sized(80, 63, 1));
        lies(c, "a quarter too wide", 83, 0, false, due(83.25, 1, 1), Shops.sized(83.25, 83, 1));
        lies(c, "ROOM of a turned row", 63, 0, false, due(93, 2, 1), Shops.sized(80, 53, 1),
                Shops.sized(13, 13, 1));
        lies(c, "more ROOM of a turned row", 63, 0, false, due(80, 1, 1), Shops.sized(80, 43, 1),
                Shops.sized(20, 13, 1));
    }

    static void promise25NoLay(Check c) {
        lies(c, "too wide with NAP", 63, 0, true, due(-1, -1, -1), Shops.sized(80, 63, 1));
        lies(c, "too wide and too long", 63, 0, false, due(-1, -1, -1), Shops.sized(80, 73, 1));
        lies(c, "one of them", 63, 0, false, due(-1, -1, -1), Shops.sized(20, 83, 1),
                Shops.sized(80, 73, 1));
        TailorBench x = Shops.orderOf(Shops.sized(80, 63, 1));
        x.cloth(63, 0, 0, 0, true, 1);
        c.same("WASTE of none", x.lay(0, NONE, 0, 1), -1.0);
    }

    static void promise25StripeRaisesNewRows(Check c) {
        lies(c, "20", 100, 20, true, due(100, 1, 0), Shops.sized(20, 83, 1));
        lies(c, "7", 100, 7, true, due(84, 1, 0), Shops.sized(20, 83, 1));
        lies(c, "1", 100, 1, true, due(83, 1, 0), Shops.sized(20, 83, 1));
        lies(c, "9 of 63", 100, 9, true, due(63, 1, 0), Shops.sized(20, 63, 1));
        lies(c, "10 in rows", 100, 10, true, due(180, 2, 0), Shops.sized(60, 83, 2));
        lies(c, "turned", 60, 7, false, due(84, 1, 1), Shops.sized(80, 53, 1));
        lies(c, "a fraction", 60, 1, false, due(81, 1, 1), Shops.sized(80.25, 53, 1));
        lies(c, "raised, so that one turned fits", 100, 20, false, due(60, 1, 1),
                Shops.sized(50, 43, 1), Shops.sized(55, 33, 1));
    }

    static void promise25ShrinkWidens(Check c) {
        TailorBench x = Shops.plain();
        x.order(0, 0, 0);
        x.cloth(160, 1000, 8, 0, true, 2);
        c.same("NEEDS", x.lay(0, NONE, 0, 0), 83.0 / 0.875);
        x.wash(0);
        c.same("NEEDS once it is washed", x.lay(0, NONE, 0, 0), 83.0);
        // 24.0 / 0.875 is above 27: two go into 60, but not four into 100.
        x.cloth(60, 1000, 8, 0, true, 2);
        c.same("ROWS", x.lay(0, NONE, 1, 2), 1.0);
        x.order(0, 0, 0);
        x.cloth(100, 1000, 8, 0, true, 2);
        c.same("ROWS of both", x.lay(0, 1, 2, 2), 2.0);
        x.cloth(100, 1000, 0, 0, true, 2);
        c.same("ROWS without SHRINK", x.lay(0, 1, 3, 2), 1.0);
    }

    static void promise25WasteIsWhatIsLeft(Check c) {
        TailorBench x = Shops.told();
        c.same("WASTE", x.lay(0, NONE, 0, 1), 1.0 - 3984.0 / 8300.0);
        x.cloth(120, 0, 0, 20, false, 1);
        c.same("WASTE with STRIPE", x.lay(0, NONE, 1, 1), 1.0 - 3984.0 / 12000.0);
        TailorBench y = Shops.orderOf(Shops.sized(80, 53, 1));
        y.cloth(60, 0, 0, 0, false, 1);
        c.same("WASTE of one TURNED", y.lay(0, NONE, 0, 1), 1.0 - 4240.0 / 4800.0);
        TailorBench z = Shops.orderOf(Shops.sized(80, 53, 2));
        z.cloth(80, 0, 0, 0, true, 1);
        c.same("no WASTE", z.lay(0, NONE, 0, 1), 0.0);
    }

    static void promise25TwoLieTogether(Check c) {
        TailorBench x = Shops.orderOf(Shops.sized(53, 83, 1));
        x.style();
        int[] small = Shops.sized(47, 33, 1);
        x.piece(1, small[0], small[1], small[2], small[3]);
        x.order(0, 1, 0);
        x.cloth(100, 0, 0, 0, true, 1);
        c.same("first", x.lay(0, NONE, 0, 0), 83.0);
        c.same("second", x.lay(1, NONE, 0, 0), 33.0);
        c.same("both", x.lay(0, 1, 0, 0), 83.0);
        c.same("both, the other way", x.lay(1, 0, 0, 0), 83.0);
        c.same("WASTE", x.lay(1, 0, 0, 1), 1.0 - (53.0 * 83.0 + 47.0 * 33.0) / 8300.0);
    }

    static void promise25MostThatLies(Check c) {
        int[] one = Shops.sized(83, 83, 4);
        TailorBench x = Shops.orderOf(one, one, one, one, one);
        x.order(0, 0, 0);
        x.cloth(100, 3000, 0, 20, false, 9);
        c.same("ROWS", x.lay(0, 1, 0, 2), 40.0);
        c.same("NEEDS", x.lay(0, 1, 0, 0), 4000.0);
        c.same("too short", x.cut(0, 1, 0), -3.0);
        c.same("one alone", x.cut(1, NONE, 0), 1000.0);
        c.same("CLOCK", x.clock(), 5.0);
    }

    static void promise25LayIsByNowWhateverTheState(Check c) {
        TailorBench x = Shops.fitted();
        x.measure(0, 3, 100);
        c.same("FITTED", x.lay(0, NONE, 0, 0), 53.0);
        x.give(0);
        x.shut(true);
        x.measure(0, 3, 120);
        String before = Shops.seen(x);
        c.same("GIVEN, SHUT", x.lay(0, NONE, 0, 0), 63.0);
        c.that("nothing is changed", before.equals(Shops.seen(x)));
    }

    static void promise25LayRefuses(Check c) {
        TailorBench x = Shops.told();
        x.order(0, 0, 0);
        c.refused("lay(-1, 0, 0, 0)", x, Check.INDEX, () -> x.lay(-1, 0, 0, 0));
        c.refused("lay(-1, -1, 0, 0)", x, Check.INDEX, () -> x.lay(-1, -1, 0, 0));
        c.refused("lay(2, 0, 0, 0)", x, Check.INDEX, () -> x.lay(2, 0, 0, 0));
        c.refused("lay(2, 2, 0, 4)", x, Check.INDEX, () -> x.lay(2, 2, 0, 4));
        c.refused("lay(0, 2, 0, 0)", x, Check.INDEX, () -> x.lay(0, 2, 0, 0));
        c.refused("lay(0, -2, 0, 0)", x, Check.INDEX, () -> x.lay(0, -2, 0, 0));
        c.refused("lay(0, 1, 1, 0)", x, Check.INDEX, () -> x.lay(0, 1, 1, 0));
        c.refused("lay(0, 0, -1, 0)", x, Check.INDEX, () -> x.lay(0, 0, -1, 0));
        c.refused("lay(0, 0, 0, 0)", x, Check.ARGUMENT, () -> x.lay(0, 0, 0, 0));
        c.refused("lay(0, 1, 0, -1)", x, Check.ARGUMENT, () -> x.lay(0, 1, 0, -1));
        c.refused("lay(0, -1, 0, 4)", x, Check.ARGUMENT, () -> x.lay(0, NONE, 0, 4));
    }

    static void promise25WhatIsLookedAtWithoutALay(Check c) {
        TailorBench x = Shops.orderOf(Shops.sized(80, 73, 1));
        x.cloth(60, 0, 0, 0, true, 1);
        c.refused("lay(0, -1, 0, 4)", x, Check.ARGUMENT, () -> x.lay(0, NONE, 0, 4));
    }
}
