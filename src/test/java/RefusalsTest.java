import java.util.Map;

/**
 * Each call by each of its exceptions: the numbers just beyond those that are taken, what is not
 * there, the order among the exceptions, and that nothing is changed, which Check.undone looks at.
 */
final class RefusalsTest {
    private static final String INDEX = Stories.INDEX;
    private static final String ARGUMENT = Stories.ARGUMENT;
    private static final String STATE = Stories.STATE;
    private static final Story EMPTY = Stories.EMPTY;
    private static final Story READY = Stories.READY;
    private static final Story TOLD = Stories.TOLD;
    private static final Story FULL = Stories.FULL;
    private static final Story SHUT = FULL.then("shut(true)");

    private static final int[][] CLOTH = {{60, 160}, {0, 3000}, {0, 8}, {0, 20}, {1, 9}};
    private static final int[][] PERSON = {{50, 200}, {50, 200}, {50, 200}, {50, 200}};

    private RefusalsTest() {
    }

    /** By numbers that nothing has: with none of them there, with one, and with all there may be. */
    private static void indexed(Check c, int most, String call) {
        int[] others = new int[1];
        c.undone(EMPTY, INDEX, String.format(call, 0));
        c.undone(TOLD, INDEX, Numbers.beyond(call, others, new int[][] {{0, 0}}));
        c.undone(FULL, INDEX, Numbers.beyond(call, others, new int[][] {{0, most - 1}}));
    }

    static void storiesAreAsTheyAreMeant(Check c) {
        c.runs(FULL, "many(0) = 4", "many(1) = 6", "many(2) = 3", "many(3) = 3", "many(4) = 8",
                "many(5) = 2", "many(6) = 1", "many(7) = 2", "many(8) = 1", "many(9) = 1",
                "many(10) = 1", "many(12) = 0", "many(13) = 1", "ofOrder(2, 3) = 1",
                "fit(3) = -2", "fit(4) = 0");
        c.runs(Stories.FITTED, "ofOrder(0, 3) = 3");
        c.runs(Stories.GIVEN, "ofOrder(0, 3) = 4");
        c.runs(Stories.SPOILED, "ofOrder(0, 3) = 5");
    }

    // ---- promises 2 to 8

    static void promise02Cloth(Check c) {
        String call = "cloth(%d, %d, %d, %d, true, %d)";
        int[] good = {100, 500, 4, 10, 5};
        c.undone(EMPTY, ARGUMENT, Numbers.beyond(call, good, CLOTH));
        c.undone(TOLD, ARGUMENT, Numbers.beyond(call, good, CLOTH));
        c.undone(FULL, STATE, "cloth(100, 500, 4, 10, true, 5)", "cloth(60, 0, 0, 0, false, 1)");
        c.undone(FULL, ARGUMENT, Numbers.beyond(call, good, CLOTH));
    }

    static void promise03Wash(Check c) {
        indexed(c, 4, "wash(%d)");
    }

    static void promise04Person(Check c) {
        String call = "person(%d, %d, %d, %d)";
        int[] good = {100, 90, 80, 70};
        c.undone(EMPTY, ARGUMENT, Numbers.beyond(call, good, PERSON));
        c.undone(FULL, STATE, "person(100, 90, 80, 70)", "person(50, 200, 50, 200)");
        c.undone(FULL, ARGUMENT, Numbers.beyond(call, good, PERSON));
    }

    static void promise05Measure(Check c) {
        indexed(c, 6, "measure(%d, 0, 100)");
        indexed(c, 6, "measure(%d, 3, 201)");
        int[] others = new int[1];
        int[][] measures = {{0, 3}};
        c.undone(FULL, INDEX, Numbers.beyond("measure(5, %d, 100)", others, measures));
        c.undone(FULL, INDEX, Numbers.beyond("measure(0, %d, 49)", others, measures));
        c.undone(FULL, INDEX, "measure(6, 4, 201)");
        for (int measure = 0; measure < 4; measure++) {
            c.undone(FULL, ARGUMENT, Numbers.beyond("measure(0, " + measure + ", %d)", others,
                    new int[][] {{50, 200}}));
        }
    }

    static void promise06Style(Check c) {
        c.undone(FULL, STATE, "style()");
        c.undone(READY.then("style()", "style()"), STATE, "style()");
    }

    static void promise07PieceOfNoStyle(Check c) {
        indexed(c, 3, "piece(%d, 1, 1, 0, 1)");
        indexed(c, 3, "piece(%d, 0, 1, 0, 1)");
        indexed(c, 3, "piece(%d, 1, 40, 0, 1)");
        indexed(c, 3, "piece(%d, 1, 1, 41, 1)");
        indexed(c, 3, "piece(%d, 1, 1, 0, 0)");
    }

    static void promise07PieceByWrongNumbers(Check c) {
        String[] wrong = Numbers.beyond("piece(1, 1, 38, %d, %d)", new int[] {0, 1},
                new int[][] {{0, 40}, {1, 4}});
        c.undone(TOLD.then("style()"), ARGUMENT, wrong);
        c.undone(FULL, ARGUMENT, wrong);
        for (int part : new int[] {0, 9, 10, 19, 20, 29, 30, 39, 40, 41, -1, -9, -12,
            Integer.MIN_VALUE, Integer.MAX_VALUE}) {
            c.undone(FULL, ARGUMENT, "piece(1, " + part + ", 1, 0, 1)",
                    "piece(1, 1, " + part + ", 0, 1)");
        }
    }

    static void promise07EveryPartThereIs(Check c) {
        for (int part = -100; part <= 200; part++) {
            boolean isPart = part >= 0 && part <= 38 && part % 10 >= 1 && part % 10 <= 8;
            String due = isPart ? "1" : ARGUMENT;
            c.runs(Story.of("style()", "style()"), "piece(0, " + part + ", 11, 0, 1) = " + due,
                    "piece(1, 11, " + part + ", 0, 1) = " + due);
        }
    }

    static void promise07PieceThatNoStyleTakes(Check c) {
        String[] calls = {"piece(0, 1, 1, 0, 1)", "piece(0, 38, 38, 40, 4)"};
        Story four = EMPTY.then("style()", "person(50, 50, 50, 50)").often(4, calls[0]);
        c.runs(four, "piece(0, 1, 1, 0, 1) = 5");
        c.undone(four.then(calls[0]), STATE, calls);
        c.undone(four.then(calls[0]), ARGUMENT, "piece(0, 1, 1, 41, 1)", "piece(0, 0, 1, 0, 1)",
                "piece(0, 1, 30, 0, 1)", "piece(0, 1, 1, 0, 5)");
        c.undone(four.then("order(0, 0, 0)"), STATE, calls);
        for (Story story : new Story[] {TOLD, Stories.CUT, Stories.SEWN, Stories.FITTED,
            Stories.GIVEN, Stories.SPOILED}) {
            c.undone(story, STATE, calls);
            c.undone(story, ARGUMENT, "piece(0, 1, 1, 0, 0)");
        }
        c.undone(FULL, STATE, "piece(0, 1, 1, 0, 1)", "piece(1, 1, 1, 0, 1)",
                "piece(2, 1, 1, 0, 1)");
    }

    static void promise08Hand(Check c) {
        int[][] paces = {{1, 16}};
        c.undone(EMPTY, ARGUMENT, Numbers.beyond("hand(%d)", new int[1], paces));
        c.undone(FULL, ARGUMENT, Numbers.beyond("hand(%d)", new int[1], paces));
        c.undone(FULL, STATE, "hand(1)", "hand(16)");
    }

    // ---- promises 9 to 16

    static void promise09OrderOfNoOne(Check c) {
        indexed(c, 6, "order(%d, 0, 0)");
        indexed(c, 3, "order(0, %d, 0)");
        indexed(c, 6, "order(%d, 0, -1)");
        indexed(c, 3, "order(0, %d, 401)");
        c.undone(EMPTY.then("person(50, 50, 50, 50)"), INDEX, "order(0, 0, 0)");
        c.undone(EMPTY.then("style()"), INDEX, "order(0, 0, 0)");
    }

    static void promise09OrderByWrongHours(Check c) {
        int[][] hours = {{0, 400}};
        Story bare = READY.then("style()");
        c.undone(READY, ARGUMENT, Numbers.beyond("order(0, 0, %d)", new int[1], hours));
        c.undone(bare, ARGUMENT, Numbers.beyond("order(0, 1, %d)", new int[1], hours));
        c.undone(FULL, ARGUMENT, Numbers.beyond("order(5, 2, %d)", new int[1], hours));
    }

    static void promise09OrderThatIsNotTaken(Check c) {
        c.undone(FULL, STATE, "order(0, 0, 0)", "order(5, 2, 400)");
        c.undone(READY.then("style()"), STATE, "order(0, 1, 0)", "order(0, 1, 400)");
        Story seven = READY.then("style()").often(7, "order(0, 0, 0)");
        c.runs(seven, "order(0, 0, 0) = 7", "order(0, 0, 0) = " + STATE);
        c.undone(seven.then("order(0, 0, 0)"), STATE, "order(0, 0, 0)", "order(0, 1, 0)");
        c.runs(seven.then("order(0, 0, 0)"), "order(0, 1, 0) = " + STATE,
                "piece(1, 1, 1, 0, 1) = 1", "order(0, 1, 0) = " + STATE, "piece(1, 1, 1, 0, 1) = 2");
    }

    static void promise10CutOfNone(Check c) {
        indexed(c, 8, "cut(%d, -1, 0)");
        indexed(c, 4, "cut(0, -1, %d)");
        int[] others = new int[1];
        c.undone(TOLD, INDEX, "cut(0, 1, 0)", "cut(0, -2, 0)", "cut(1, 1, 0)", "cut(-1, -1, 0)",
                "cut(-1, 0, 0)", "cut(0, 0, 1)", "cut(0, 0, -1)");
        c.undone(FULL, INDEX, Numbers.beyond("cut(0, %d, 0)", others, new int[][] {{-1, 7}}));
        for (String call : new String[] {"cut(%d, 1, 0)", "cut(%d, %<d, 0)", "cut(%d, 2, 0)"}) {
            c.undone(FULL, INDEX, Numbers.beyond(call, others, new int[][] {{0, 7}}));
            c.undone(SHUT, INDEX, Numbers.beyond(call, others, new int[][] {{0, 7}}));
        }
        for (String call : new String[] {"cut(0, 1, %d)", "cut(0, 0, %d)", "cut(2, -1, %d)"}) {
            c.undone(FULL, INDEX, Numbers.beyond(call, others, new int[][] {{0, 3}}));
            c.undone(SHUT, INDEX, Numbers.beyond(call, others, new int[][] {{0, 3}}));
        }
        c.undone(EMPTY.then("person(50, 50, 50, 50)", "style()", "piece(0, 1, 1, 0, 1)",
                "order(0, 0, 0)"), INDEX, "cut(0, -1, 0)", "cut(0, 0, 0)");
    }

    static void promise10CutOfBothTheSame(Check c) {
        c.undone(TOLD, ARGUMENT, "cut(0, 0, 0)");
        for (int order = 0; order < 8; order++) {
            String call = "cut(" + order + ", " + order + ", 0)";
            c.undone(FULL, ARGUMENT, call);
            c.undone(SHUT, ARGUMENT, call);
        }
    }

    static void promise10CutOfWhatIsNotTold(Check c) {
        for (int order = 2; order < 8; order++) {
            c.undone(FULL, STATE, "cut(" + order + ", -1, 0)", "cut(" + order + ", 0, 0)",
                    "cut(0, " + order + ", 0)", "cut(" + order + ", " + (order == 2 ? 3 : 2)
                    + ", 0)");
        }
        // Without a LAY, or too short for it, it is refused as well.
        c.undone(FULL, STATE, "cut(4, -1, 2)", "cut(2, -1, 3)");
    }

    static void promise10CutWhileShut(Check c) {
        c.undone(SHUT, STATE, "cut(0, -1, 0)", "cut(0, 1, 0)", "cut(2, -1, 0)", "cut(0, -1, 3)",
                "cut(0, 2, 0)");
        c.undone(TOLD.then("shut(true)"), STATE, "cut(0, -1, 0)");
        // Whether there is a LAY, or LENGTH enough, is not asked then; nor if the other is not TOLD.
        Story wide = Story.of("person(200, 50, 50, 200)", "style()", "piece(0, 8, 38, 0, 1)",
                "style()", "piece(1, 11, 11, 0, 1)", "cloth(160, 3000, 0, 0, false, 1)",
                "order(0, 0, 0)", "order(0, 1, 0)");
        c.undone(wide.then("shut(true)"), STATE, "cut(0, -1, 0)", "cut(0, 1, 0)");
        c.undone(wide.then("cut(1, -1, 0)"), STATE, "cut(0, 1, 0)", "cut(1, 0, 0)");
        c.undone(TOLD.then("cloth(100, 0, 0, 0, true, 1)", "shut(true)"), STATE, "cut(0, -1, 1)");
        c.undone(TOLD.then("shut(true)", "shut(true)"), STATE, "cut(0, -1, 0)");
        c.runs(TOLD.then("shut(true)", "shut(false)"), "cut(0, -1, 0) = 917.0");
    }

    static void promise11Sew(Check c) {
        indexed(c, 8, "sew(%d, 0)");
        indexed(c, 3, "sew(0, %d)");
        int[] others = new int[1];
        for (Story story : new Story[] {FULL, SHUT}) {
            c.undone(story, INDEX, Numbers.beyond("sew(2, %d)", others, new int[][] {{0, 2}}));
            c.undone(story, INDEX, Numbers.beyond("sew(%d, 2)", others, new int[][] {{0, 7}}));
        }
        c.undone(Story.of("person(50, 50, 50, 50)", "style()", "piece(0, 1, 1, 0, 1)",
                "cloth(60, 500, 0, 0, true, 1)", "order(0, 0, 0)", "cut(0, -1, 0)"), INDEX,
                "sew(0, 0)");
        for (int order : new int[] {0, 1, 3, 4, 5, 6, 7}) {
            c.undone(FULL, STATE, "sew(" + order + ", 0)");
        }
        c.undone(SHUT, STATE, "sew(2, 0)", "sew(0, 0)");
        c.runs(FULL, "shut(true) = false", "sew(2, 0) = " + STATE, "shut(false) = true",
                "clock() = 25.5", "sew(2, 0) = 26.25");
    }

    static void promise12Fit(Check c) {
        indexed(c, 8, "fit(%d)");
        c.undone(SHUT, INDEX, "fit(-1)", "fit(8)");
        for (int order : new int[] {0, 1, 2, 5, 6, 7}) {
            c.undone(FULL, STATE, "fit(" + order + ")");
        }
        // READY or not, and whatever it would tell.
        c.undone(SHUT, STATE, "fit(4)", "fit(3)", "fit(0)");
        c.runs(SHUT, "fit(4) = " + STATE, "shut(false) = true", "fit(4) = 0");
    }

    static void promise13Give(Check c) {
        indexed(c, 8, "give(%d)");
        c.undone(SHUT, INDEX, "give(-1)", "give(8)");
        for (int order : new int[] {0, 1, 2, 3, 4, 6, 7}) {
            c.undone(FULL, STATE, "give(" + order + ")");
        }
        c.undone(SHUT, STATE, "give(5)", "give(6)");
        c.runs(SHUT, "give(5) = " + STATE, "shut(false) = true", "give(5) = 28");
    }

    static void promise14Pass(Check c) {
        for (Story story : new Story[] {EMPTY, FULL, SHUT}) {
            c.undone(story, ARGUMENT, Numbers.beyond("pass(%d)", new int[1],
                    new int[][] {{1, 100}}));
        }
        c.undone(EMPTY.often(20, "pass(100)"), ARGUMENT, "pass(0)", "pass(101)");
    }

    // ---- promises 17 to 28

    static void promise17OfCloth(Check c) {
        indexed(c, 4, "ofCloth(%d, 0)");
        indexed(c, 4, "ofCloth(%d, 6)");
        c.undone(FULL, ARGUMENT, Numbers.beyond("ofCloth(3, %d)", new int[1],
                new int[][] {{0, 5}}));
    }

    static void promise18Size(Check c) {
        for (String how : new String[] {"true", "false"}) {
            indexed(c, 3, "size(%d, 0, 0, " + how + ")");
            indexed(c, 6, "size(0, 0, %d, " + how + ")");
            int[] pieces = {2, 5, 1};
            for (int style = 0; style < pieces.length; style++) {
                c.undone(FULL, INDEX, Numbers.beyond("size(" + style + ", %d, 0, " + how + ")",
                        new int[1], new int[][] {{0, pieces[style] - 1}}));
            }
            c.undone(READY.then("style()"), INDEX, "size(1, 0, 0, " + how + ")");
            c.undone(Story.of("style()", "piece(0, 1, 1, 0, 1)"), INDEX,
                    "size(0, 0, 0, " + how + ")");
        }
    }

    static void promise19OfOrder(Check c) {
        indexed(c, 8, "ofOrder(%d, 0)");
        indexed(c, 8, "ofOrder(%d, 8)");
        c.undone(FULL, ARGUMENT, Numbers.beyond("ofOrder(7, %d)", new int[1],
                new int[][] {{0, 7}}));
    }

    static void promises20To22OfNone(Check c) {
        indexed(c, 8, "tight(%d, true)");
        indexed(c, 8, "tight(%d, false)");
        indexed(c, 8, "ready(%d)");
        indexed(c, 3, "free(%d)");
    }

    static void promise24Many(Check c) {
        for (Story story : new Story[] {EMPTY, FULL, SHUT}) {
            c.undone(story, ARGUMENT, Numbers.beyond("many(%d)", new int[1],
                    new int[][] {{0, 13}}));
        }
    }

    static void promise25LayOfNone(Check c) {
        indexed(c, 8, "lay(%d, -1, 0, 0)");
        indexed(c, 4, "lay(0, -1, %d, 0)");
        int[] others = new int[1];
        c.undone(TOLD, INDEX, "lay(0, 1, 0, 0)", "lay(0, -2, 0, 0)", "lay(1, 1, 0, 0)",
                "lay(-1, -1, 0, 0)", "lay(-1, 0, 0, 0)", "lay(0, 0, 1, 0)");
        for (String call : new String[] {"lay(%d, 1, 0, 0)", "lay(%d, %<d, 0, 0)",
            "lay(%d, 1, 0, 4)", "lay(%d, %<d, 0, -1)"}) {
            c.undone(FULL, INDEX, Numbers.beyond(call, others, new int[][] {{0, 7}}));
        }
        for (String call : new String[] {"lay(0, %d, 0, 0)", "lay(0, %d, 0, 4)"}) {
            c.undone(FULL, INDEX, Numbers.beyond(call, others, new int[][] {{-1, 7}}));
        }
        for (String call : new String[] {"lay(0, 1, %d, 0)", "lay(0, 0, %d, 0)",
            "lay(0, 1, %d, 4)"}) {
            c.undone(FULL, INDEX, Numbers.beyond(call, others, new int[][] {{0, 3}}));
        }
    }

    static void promise25LayOfTheSameOrOfNothing(Check c) {
        for (int order = 0; order < 8; order++) {
            c.undone(FULL, ARGUMENT, "lay(" + order + ", " + order + ", 0, 0)");
        }
        c.undone(FULL, ARGUMENT, "lay(0, 0, 0, 4)");
        for (String call : new String[] {"lay(0, 1, 0, %d)", "lay(0, -1, 3, %d)",
            "lay(3, -1, 2, %d)"}) {
            c.undone(FULL, ARGUMENT, Numbers.beyond(call, new int[1], new int[][] {{0, 3}}));
        }
    }

    static void promises26To28OfNone(Check c) {
        indexed(c, 8, "best(%d)");
        indexed(c, 8, "soonest(%d)");
        indexed(c, 8, "mate(%d, 0)");
        indexed(c, 4, "mate(0, %d)");
        c.undone(FULL, INDEX, "mate(8, 4)", "mate(-1, -1)");
    }

    // ---- what answers, and changes nothing

    static void promise10NothingIsDoneWithoutALay(Check c) {
        Story wide = Story.of("person(200, 50, 50, 200)", "style()", "piece(0, 8, 38, 0, 1)",
                "style()", "piece(1, 11, 11, 0, 1)", "cloth(160, 3000, 0, 0, false, 1)",
                "cloth(60, 0, 0, 0, true, 1)", "order(0, 0, 0)", "order(0, 1, 0)", "hand(8)");
        c.undone(wide, "-2.0", "cut(0, -1, 0)", "cut(0, 1, 0)", "cut(1, 0, 0)", "cut(0, -1, 1)",
                "cut(0, 1, 1)");
        c.undone(wide, "-3.0", "cut(1, -1, 1)");
    }

    static void promise10NothingIsDoneWithTooLittle(Check c) {
        Story little = TOLD.then("order(0, 0, 0)", "cloth(100, 82, 0, 0, false, 9)",
                "cloth(100, 0, 0, 20, true, 9)", "cloth(90, 83, 0, 0, true, 9)");
        c.undone(little, "-3.0", "cut(0, -1, 1)", "cut(1, -1, 1)", "cut(0, 1, 1)", "cut(1, 0, 1)",
                "cut(0, -1, 2)", "cut(0, 1, 3)");
        c.runs(little, "cut(0, -1, 3) = 0.0");
    }

    static void promise12NothingIsDoneAheadOfReady(Check c) {
        c.undone(Stories.SEWN, "-2", "fit(0)");
        c.undone(FULL, "-2", "fit(3)");
        // Nor if it is SPOILED as soon as it is READY.
        c.undone(Stories.SEWN.then("measure(0, 0, 200)"), "-2", "fit(0)");
    }

    static void askingChangesNothing(Check c) {
        for (Story story : new Story[] {EMPTY, TOLD, FULL, SHUT}) {
            for (int from = 0; from < Asking.ALL.size(); from += 100) {
                int to = Math.min(from + 100, Asking.ALL.size());
                String[] asked = Asking.ALL.subList(from, to).toArray(new String[0]);
                c.that("nothing is changed from " + asked[0] + " on",
                        story.seen().equals(story.seenAfter(asked)));
            }
        }
    }

    /** Every call in an empty shop: what takes no number is answered, all else is refused. */
    static void promise01NothingIsThereYet(Check c) {
        Map<String, String> due = Map.of("clock()", "0.0", "shut(true)", "false", "shut(false)",
                "false", "bell()", "1", "style()", "0", "pass(1)", "1.0");
        due.forEach((call, answer) -> c.runs(EMPTY, call + " = " + answer));
        for (String call : Asking.ALL) {
            if (!call.startsWith("many") && !call.equals("clock()") && !call.equals("digest()")) {
                c.runs(EMPTY, call + " = " + INDEX);
            }
        }
        for (int what = 0; what <= 13; what++) {
            c.runs(EMPTY, "many(" + what + ") = 0");
        }
    }
}
