/** The edges of the LAY (section 3 and promise 25): just room enough and just too little. */
final class LayEdgesTest {
    private LayEdgesTest() {
    }

    /** ORDER 0 of these PIECES (as Shops.orderOf), on a CLOTH of this WIDTH. */
    private static Story laid(String cloth, int[]... pieces) {
        Story story = Story.of("person(80, 80, 80, 160)", "style()");
        for (int[] one : pieces) {
            story = story.then("piece(0, " + one[0] + ", " + one[1] + ", " + one[2] + ", " + one[3]
                    + ")");
        }
        return story.then("order(0, 0, 0)", "cloth(" + cloth + ")");
    }

    private static int[] sized(double wide, int tall, int count) {
        return Shops.sized(wide, tall, count);
    }

    private static void lies(Check c, Story story, String needs, String rows, String turned) {
        c.runs(story, "lay(0, -1, 0, 0) = " + needs, "lay(0, -1, 0, 2) = " + rows,
                "lay(0, -1, 0, 3) = " + turned);
    }

    private static void liesNot(Check c, Story story) {
        lies(c, story, "-1.0", "-1.0", "-1.0");
        c.runs(story, "lay(0, -1, 0, 1) = -1.0", "best(0) = -1", "cut(0, -1, 0) = -2.0");
    }

    static void rule1RoomOfWideOrMore(Check c) {
        String nap = "100, 3000, 0, 0, true, 1";
        lies(c, laid(nap, sized(60, 83, 1), sized(40, 83, 1)), "83.0", "1.0", "0.0");
        lies(c, laid(nap, sized(60, 83, 1), sized(40.25, 83, 1)), "166.0", "2.0", "0.0");
        lies(c, laid(nap, sized(60.25, 83, 1), sized(40, 83, 1)), "166.0", "2.0", "0.0");
        lies(c, laid(nap, sized(25, 83, 4)), "83.0", "1.0", "0.0");
        lies(c, laid(nap, sized(25, 83, 4), sized(13, 13, 1)), "96.0", "2.0", "0.0");
        lies(c, laid(nap, sized(50, 83, 2), sized(50, 73, 2)), "156.0", "2.0", "0.0");
    }

    static void rule1FirstRowOfSeveral(Check c) {
        // 23 goes into the first ROW, so 40 finds its place in the second one alone.
        lies(c, laid("100, 3000, 0, 0, true, 1", sized(70, 83, 1), sized(60, 73, 1),
                sized(23, 63, 1), sized(40, 53, 1)), "156.0", "2.0", "0.0");
        // Where the first has no ROOM left, the second takes it.
        lies(c, laid("100, 3000, 0, 0, true, 1", sized(70, 83, 1), sized(60, 73, 1),
                sized(40, 63, 1), sized(30, 53, 1)), "156.0", "2.0", "0.0");
    }

    static void rule2TurnedWhereUprightHasNoRoom(Check c) {
        // ROOM 53 of LONG 53, HEIGHT 83 of WIDE 83.
        lies(c, laid("100, 3000, 0, 0, false, 1", sized(47, 83, 1), sized(83, 53, 1)),
                "83.0", "1.0", "1.0");
        lies(c, laid("100, 3000, 0, 0, false, 1", sized(47.25, 83, 1), sized(83, 53, 1)),
                "136.0", "2.0", "0.0");
        lies(c, laid("100, 3000, 0, 0, false, 1", sized(47, 83, 1), sized(83.25, 53, 1)),
                "136.0", "2.0", "0.0");
        lies(c, laid("100, 3000, 0, 0, true, 1", sized(47, 83, 1), sized(83, 53, 1)),
                "136.0", "2.0", "0.0");
        // Once it lies there, no ROOM is left for the least one.
        lies(c, laid("100, 3000, 0, 0, false, 1", sized(47, 83, 1), sized(83, 53, 1),
                sized(13, 13, 1)), "96.0", "2.0", "1.0");
        lies(c, laid("100, 3000, 0, 0, false, 1", sized(34, 83, 1), sized(83, 53, 1),
                sized(13, 13, 1)), "83.0", "1.0", "1.0");
        lies(c, laid("100, 3000, 0, 0, false, 1", sized(34, 83, 1), sized(83, 53, 1),
                sized(13.25, 13, 1)), "83.0", "1.0", "2.0");
    }

    static void rule2FirstRowOfSeveral(Check c) {
        // 83 by 33 is TURNED into the second ROW, as the first has ROOM of 30; 73 by 23 then too.
        lies(c, laid("100, 3000, 0, 0, false, 1", sized(70, 83, 1), sized(44, 83, 1),
                sized(83, 33, 1), sized(73, 23, 1)), "166.0", "2.0", "2.0");
        // It is TURNED into the first that has ROOM: 40 by 23 finds what the second has left.
        lies(c, laid("100, 3000, 0, 0, false, 1", sized(67, 83, 1), sized(60, 83, 1),
                sized(83, 33, 1), sized(40, 23, 1)), "166.0", "2.0", "1.0");
        // The first ROW has the ROOM, but not the HEIGHT: no ROW behind it is higher.
        lies(c, laid("100, 3000, 0, 0, false, 1", sized(50, 73, 1), sized(83, 43, 1)),
                "116.0", "2.0", "0.0");
    }

    static void rule2IsBehindRule1InEveryRow(Check c) {
        // 40 by 23 would go TURNED into the first ROW; upright it goes into the second.
        lies(c, laid("100, 3000, 0, 0, false, 1", sized(70, 83, 1), sized(60, 73, 1),
                sized(40, 23, 1)), "156.0", "2.0", "0.0");
    }

    static void rule3WideNoMoreThanWidth(Check c) {
        lies(c, laid("83, 3000, 0, 0, true, 1", sized(83, 83, 1)), "83.0", "1.0", "0.0");
        lies(c, laid("83, 3000, 0, 0, false, 1", sized(83, 83, 1)), "83.0", "1.0", "0.0");
        liesNot(c, laid("83, 3000, 0, 0, true, 1", sized(83.25, 83, 1)));
        liesNot(c, laid("82, 3000, 0, 0, true, 1", sized(83, 13, 1)));
        liesNot(c, laid("82, 3000, 0, 0, false, 1", sized(83, 83, 1)));
        // Its ROW has no ROOM left.
        lies(c, laid("83, 3000, 0, 0, true, 1", sized(83, 83, 1), sized(13, 13, 1)),
                "96.0", "2.0", "0.0");
        // Upright it lies, though TURNED it would need less.
        lies(c, laid("100, 3000, 0, 0, false, 1", sized(13, 83, 1)), "83.0", "1.0", "0.0");
    }

    static void rule4LongNoMoreThanWidth(Check c) {
        lies(c, laid("83, 3000, 0, 0, false, 1", sized(83.25, 83, 1)), "83.25", "1.0", "1.0");
        liesNot(c, laid("82, 3000, 0, 0, false, 1", sized(83.25, 83, 1)));
        liesNot(c, laid("83, 3000, 0, 0, true, 1", sized(83.25, 83, 1)));
        // Its ROOM is LONG less: 20 of 83 is enough for 20, but not for 20.25.
        lies(c, laid("83, 3000, 0, 0, false, 1", sized(85, 63, 1), sized(20, 53, 1)),
                "85.0", "1.0", "1.0");
        lies(c, laid("83, 3000, 0, 0, false, 1", sized(85, 63, 1), sized(20.25, 53, 1)),
                "138.0", "2.0", "1.0");
        // Its HEIGHT is WIDE: one of 85 goes there TURNED as well.
        lies(c, laid("83, 3000, 0, 0, false, 1", sized(85, 53, 1), sized(85, 23, 1)),
                "85.0", "1.0", "2.0");
        lies(c, laid("83, 3000, 0, 0, false, 1", sized(85, 53, 1), sized(85.25, 23, 1)),
                "170.25", "2.0", "2.0");
    }

    static void rule5OneThatFindsNoPlace(Check c) {
        liesNot(c, laid("82, 3000, 0, 0, false, 1", sized(20, 23, 1), sized(83, 83, 1),
                sized(13, 13, 4)));
        liesNot(c, laid("82, 3000, 0, 0, true, 1", sized(13, 83, 4), sized(83, 13, 1)));
        // Without NAP that one goes TURNED into the ROW of the others.
        lies(c, laid("82, 3000, 0, 0, false, 1", sized(13, 83, 4), sized(83, 13, 1)),
                "83.0", "1.0", "1.0");
    }

    static void greatestLongThenGreatestWide(Check c) {
        // One of WIDE 83 and LONG 23.0, and one of WIDE 13 whose LONG is an eighth more or less:
        // they share a ROW, as its HEIGHT is that of the greater one.
        Story eighth = Story.of("person(80, 80, 80, 160)", "style()", "piece(0, 8, 31, 0, 1)",
                "piece(0, 1, 21, 0, 1)", "order(0, 0, 0)", "cloth(96, 3000, 0, 0, true, 1)");
        lies(c, eighth.then("measure(0, 2, 161)"), "23.125", "1.0", "0.0");
        lies(c, eighth.then("measure(0, 2, 160)"), "23.0", "1.0", "0.0");
        lies(c, eighth.then("measure(0, 2, 159)"), "23.0", "1.0", "0.0");
        // Of LONG 83 come 60, 50, 40 and 30: into two ROWS, as 60 and 40, 50 and 30.
        lies(c, laid("100, 3000, 0, 0, true, 1", sized(30, 83, 1), sized(50, 83, 1),
                sized(40, 83, 1), sized(60, 83, 1), sized(20, 83, 1)), "166.0", "2.0", "0.0");
    }

    static void stripeLeastAndMost(Check c) {
        int[] one = {2, 31, 0, 1};
        // LONG 160 / 8.0 + 3.0 is 23.0; of a height of 161 it is 23.125.
        String[][] rows = {{"0", "23.0", "23.125"}, {"1", "23.0", "24.0"}, {"20", "40.0", "40.0"},
            {"2", "24.0", "24.0"}, {"8", "24.0", "24.0"}, {"12", "24.0", "24.0"}};
        for (String[] row : rows) {
            Story story = laid("100, 3000, 0, " + row[0] + ", true, 1", one);
            lies(c, story, row[1], "1.0", "0.0");
            lies(c, story.then("measure(0, 3, 161)"), row[2], "1.0", "0.0");
        }
    }

    static void stripeOfAMultiple(Check c) {
        // LONG 40.0 stays under STRIPE 20, as 60.0 does; 40.125 becomes 60.0.
        Story story = laid("100, 3000, 0, 20, true, 1", new int[] {2, 32, 0, 1});
        c.runs(story, "measure(0, 3, 148) = 160", "lay(0, -1, 0, 0) = 40.0",
                "measure(0, 3, 149) = 148", "lay(0, -1, 0, 0) = 60.0", "measure(0, 3, 68) = 149",
                "lay(0, -1, 0, 0) = 20.0", "measure(0, 3, 147) = 68", "lay(0, -1, 0, 0) = 40.0");
    }

    static void stripeRaisesEveryNewRow(Check c) {
        lies(c, laid("100, 3000, 0, 20, true, 1", sized(60, 83, 1), sized(60, 43, 1),
                sized(60, 13, 1)), "180.0", "3.0", "0.0");
        // A TURNED one, too: WIDE 85 in steps of 20.
        lies(c, laid("83, 3000, 0, 20, false, 1", sized(85, 53, 1)), "100.0", "1.0", "1.0");
        // What the STRIPE adds is HEIGHT for those that are TURNED: 60 of 43.
        lies(c, laid("100, 3000, 0, 20, false, 1", sized(50, 43, 1), sized(60, 33, 1)),
                "60.0", "1.0", "1.0");
        lies(c, laid("100, 3000, 0, 20, false, 1", sized(50, 43, 1), sized(60.25, 33, 1)),
                "100.0", "2.0", "0.0");
    }

    static void shrinkAtItsEdges(Check c) {
        // BODY 84.5 and 3.0 are 87.5, by 0.875 just 100.0; a quarter more is too WIDE.
        lies(c, laid("100, 3000, 8, 0, true, 1", sized(87.5, 13, 1)),
                String.valueOf(13.0 / 0.875), "1.0", "0.0");
        liesNot(c, laid("100, 3000, 8, 0, true, 1", sized(87.75, 13, 1)));
        c.runs(laid("100, 3000, 8, 0, true, 1", sized(87.5, 13, 1)).then("wash(0)"),
                "ofCloth(0, 0) = 87.5", "lay(0, -1, 0, 0) = 13.0");
        c.runs(laid("100, 3000, 8, 0, true, 1", sized(87.75, 13, 1)).then("wash(0)"),
                "lay(0, -1, 0, 0) = -1.0");
        c.runs(laid("160, 3000, 1, 0, true, 1", sized(63, 63, 1)), "lay(0, -1, 0, 0) = 64.0");
        c.runs(laid("64, 3000, 1, 0, true, 1", sized(63, 63, 1)), "lay(0, -1, 0, 0) = 64.0");
        c.runs(laid("64, 3000, 1, 0, false, 1", sized(63.25, 63, 1)), "lay(0, -1, 0, 3) = 1.0");
    }

    static void twoOrdersLieTogether(Check c) {
        // 60 by 83 of the one and 40 by 63 of the other: in one ROW, whichever is named first.
        Story both = laid("100, 3000, 0, 0, true, 1", sized(60, 83, 1)).then("style()",
                "piece(1, 3, 36, 28, 1)", "order(0, 1, 0)");
        c.runs(both, "lay(1, -1, 0, 0) = 123.0", "measure(0, 3, 80) = 160",
                "lay(1, -1, 0, 0) = 63.0", "lay(0, -1, 0, 0) = 83.0", "lay(0, 1, 0, 0) = 83.0",
                "lay(1, 0, 0, 0) = 83.0", "lay(1, 0, 0, 2) = 1.0", "mate(0, 0) = 1",
                "mate(1, 0) = 0");
    }

    static void asManyAsMayLie(Check c) {
        Story most = Story.of("person(200, 50, 50, 200)", "style()")
                .often(5, "piece(0, 6, 38, 28, 4)").then("order(0, 0, 0)", "order(0, 0, 0)",
                "cloth(160, 3000, 0, 20, true, 9)");
        c.runs(most, "lay(0, 1, 0, 2) = 40.0", "lay(0, 1, 0, 0) = 8800.0", "lay(0, -1, 0, 2) = 20.0",
                "lay(0, -1, 0, 0) = 4400.0", "cut(0, 1, 0) = -3.0", "best(0) = -1");
        Story turned = Story.of("person(200, 50, 50, 156)", "style()")
                .often(5, "piece(0, 8, 38, 40, 4)").then("order(0, 0, 0)", "order(0, 0, 0)",
                "cloth(160, 3000, 0, 0, false, 9)");
        c.runs(turned, "lay(0, 1, 0, 2) = 40.0", "lay(0, 1, 0, 3) = 40.0",
                "lay(0, 1, 0, 0) = 8520.0");
    }

    static void leastThatMayLie(Check c) {
        Story least = Story.of("person(50, 50, 50, 50)", "style()", "piece(0, 1, 1, 0, 1)",
                "order(0, 0, 0)", "cloth(60, 10, 0, 0, true, 1)");
        c.runs(least, "lay(0, -1, 0, 0) = 9.25", "lay(0, -1, 0, 2) = 1.0", "lay(0, -1, 0, 3) = 0.0",
                "lay(0, -1, 0, 1) = " + (1.0 - 9.25 * 9.25 / (9.25 * 60.0)),
                "cut(0, -1, 0) = 0.75");
    }

    static void wasteAtItsEdges(Check c) {
        c.runs(laid("83, 0, 0, 0, true, 1", sized(83, 83, 4)), "lay(0, -1, 0, 1) = 0.0",
                "lay(0, -1, 0, 0) = 332.0");
        // In three ROWS, of two sizes; a TURNED one covers as much as upright.
        c.runs(laid("83, 0, 0, 0, false, 1", sized(85, 53, 1), sized(85, 23, 1)),
                "lay(0, -1, 0, 1) = " + (1.0 - (85.0 * 53.0 + 85.0 * 23.0) / (85.0 * 83.0)));
        c.runs(laid("100, 0, 0, 20, true, 1", sized(60, 83, 1), sized(60, 43, 1)),
                "lay(0, -1, 0, 1) = " + (1.0 - (60.0 * 83.0 + 60.0 * 43.0) / (160.0 * 100.0)));
        Story shrinks = laid("100, 0, 8, 0, true, 1", sized(60, 83, 1));
        double wide = 60.0 / 0.875;
        double tall = 83.0 / 0.875;
        c.runs(shrinks, "lay(0, -1, 0, 1) = " + (1.0 - wide * tall / (tall * 100.0)));
    }
}
