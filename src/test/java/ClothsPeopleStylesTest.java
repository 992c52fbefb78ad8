/** Promises 1 to 8: a new object, cloths, people, styles and hands. */
final class ClothsPeopleStylesTest {
    private ClothsPeopleStylesTest() {
    }

    static void promise01NewShopIsEmpty(Check c) {
        TailorBench x = new TailorBench();
        for (int what = 0; what <= 13; what++) {
            c.same("many(" + what + ")", x.many(what), 0);
        }
        c.same("clock()", x.clock(), 0.0);
        c.that("it is open", !x.shut(false));
        c.refused("wash(0)", x, Check.INDEX, () -> x.wash(0));
        c.refused("free(0)", x, Check.INDEX, () -> x.free(0));
        c.refused("ready(0)", x, Check.INDEX, () -> x.ready(0));
    }

    static void promise01ShopsAreApart(Check c) {
        TailorBench x = Shops.fitted();
        TailorBench y = new TailorBench();
        c.same("many(0) of the other", y.many(0), 0);
        y.cloth(60, 10, 0, 0, false, 1);
        c.same("WIDTH of the first", x.ofCloth(0, 0), 100.0);
    }

    static void promise02ClothIsAsTold(Check c) {
        TailorBench x = new TailorBench();
        c.same("first", x.cloth(60, 0, 0, 0, false, 1), 0);
        c.same("second", x.cloth(160, 3000, 8, 20, true, 9), 1);
        c.same("third", x.cloth(101, 77, 3, 5, false, 4), 2);
        double[][] due = {
            {60.0, 0.0, 0.0, 0.0, 0.0, 1.0},
            {160.0, 3000.0, 0.125, 20.0, 1.0, 9.0},
            {101.0, 77.0, 0.046875, 5.0, 0.0, 4.0}};
        for (int i = 0; i < due.length; i++) {
            for (int what = 0; what < 6; what++) {
                c.same("ofCloth(" + i + ", " + what + ")", x.ofCloth(i, what), due[i][what]);
            }
        }
        c.same("CLOTHS", x.many(0), 3);
    }

    static void promise02ClothRefusesArguments(Check c) {
        TailorBench x = Shops.told();
        int[][] wrong = {
            {59, 10, 0, 0, 1}, {161, 10, 0, 0, 1}, {100, -1, 0, 0, 1}, {100, 3001, 0, 0, 1},
            {100, 10, -1, 0, 1}, {100, 10, 9, 0, 1}, {100, 10, 0, -1, 1}, {100, 10, 0, 21, 1},
            {100, 10, 0, 0, 0}, {100, 10, 0, 0, 10}, {Integer.MIN_VALUE, 10, 0, 0, 1},
            {100, Integer.MAX_VALUE, 0, 0, 1}, {100, 10, 64, 0, 1}};
        for (int[] w : wrong) {
            c.refused("cloth(" + w[0] + ", " + w[1] + ", " + w[2] + ", " + w[3] + ", " + w[4] + ")",
                    x, Check.ARGUMENT, () -> x.cloth(w[0], w[1], w[2], w[3], true, w[4]));
        }
    }

    static void promise02ClothsAreFour(Check c) {
        TailorBench x = new TailorBench();
        for (int i = 0; i < 4; i++) {
            c.same("cloth", x.cloth(100, 10, 0, 0, false, 1), i);
        }
        c.refused("a fifth", x, Check.STATE, () -> x.cloth(100, 10, 0, 0, false, 1));
        c.refused("a wrong fifth", x, Check.ARGUMENT, () -> x.cloth(59, 10, 0, 0, false, 1));
    }

    static void promise03WashShrinks(Check c) {
        TailorBench x = new TailorBench();
        x.cloth(160, 1000, 8, 20, true, 9);
        x.cloth(100, 1000, 4, 0, false, 3);
        c.same("LENGTH", x.wash(0), 875.0);
        c.same("WIDTH", x.ofCloth(0, 0), 140.0);
        c.same("LENGTH later", x.ofCloth(0, 1), 875.0);
        c.same("SHRINK", x.ofCloth(0, 2), 0.0);
        c.same("STRIPE", x.ofCloth(0, 3), 20.0);
        c.same("NAP", x.ofCloth(0, 4), 1.0);
        c.same("PRICE", x.ofCloth(0, 5), 9.0);
        c.same("the other one's WIDTH", x.ofCloth(1, 0), 100.0);
        c.same("the other one's SHRINK", x.ofCloth(1, 2), 0.0625);
        c.same("washed again", x.wash(0), 875.0);
        c.same("WIDTH washed again", x.ofCloth(0, 0), 140.0);
    }

    static void promise03WashRefuses(Check c) {
        TailorBench x = Shops.told();
        c.refused("wash(-1)", x, Check.INDEX, () -> x.wash(-1));
        c.refused("wash(1)", x, Check.INDEX, () -> x.wash(1));
    }

    static void promise04PersonIsMeasured(Check c) {
        TailorBench x = new TailorBench();
        c.same("first", x.person(50, 200, 60, 70), 0);
        c.same("second", x.person(51, 52, 53, 200), 1);
        x.style();
        for (int m = 0; m < 4; m++) {
            x.piece(0, 10 * m + 8, 8, 0, 1);
        }
        int[][] due = {{50, 200, 60, 70}, {51, 52, 53, 200}};
        for (int who = 0; who < 2; who++) {
            for (int m = 0; m < 4; m++) {
                c.same("MEASURE " + m + " of " + who, x.size(0, m, who, false), due[who][m]);
            }
        }
        c.same("PEOPLE", x.many(1), 2);
    }

    static void promise04PersonRefuses(Check c) {
        TailorBench x = new TailorBench();
        for (int place = 0; place < 4; place++) {
            for (int wrong : new int[] {49, 201, -100, Integer.MAX_VALUE}) {
                int[] m = {100, 100, 100, 100};
                m[place] = wrong;
                c.refused("person with " + wrong, x, Check.ARGUMENT,
                        () -> x.person(m[0], m[1], m[2], m[3]));
            }
        }
        for (int i = 0; i < 6; i++) {
            c.same("person", x.person(100, 100, 100, 100), i);
        }
        c.refused("a seventh", x, Check.STATE, () -> x.person(100, 100, 100, 100));
        c.refused("a wrong seventh", x, Check.ARGUMENT, () -> x.person(100, 100, 49, 100));
    }

    static void promise05MeasureIsKept(Check c) {
        TailorBench x = new TailorBench();
        x.person(60, 70, 80, 90);
        x.person(60, 70, 80, 90);
        x.style();
        for (int m = 0; m < 4; m++) {
            x.piece(0, 10 * m + 8, 8, 0, 1);
        }
        for (int m = 0; m < 4; m++) {
            c.same("that before", x.measure(1, m, 100 + m), 60 + 10 * m);
            c.same("that from now on", x.size(0, m, 1, false), 100.0 + m);
            c.same("that of the other one", x.size(0, m, 0, false), 60.0 + 10 * m);
        }
        c.same("once more", x.measure(1, 0, 50), 100);
        c.same("the most", x.measure(1, 0, 200), 50);
        c.same("the same", x.measure(1, 0, 200), 200);
    }

    static void promise05MeasureRefuses(Check c) {
        TailorBench x = Shops.told();
        c.refused("measure(-1, 0, 60)", x, Check.INDEX, () -> x.measure(-1, 0, 60));
        c.refused("measure(1, 0, 60)", x, Check.INDEX, () -> x.measure(1, 0, 60));
        c.refused("measure(0, -1, 60)", x, Check.INDEX, () -> x.measure(0, -1, 60));
        c.refused("measure(0, 4, 60)", x, Check.INDEX, () -> x.measure(0, 4, 60));
        c.refused("measure(0, 4, 49)", x, Check.INDEX, () -> x.measure(0, 4, 49));
        c.refused("measure(1, 0, 49)", x, Check.INDEX, () -> x.measure(1, 0, 49));
        c.refused("measure(0, 0, 49)", x, Check.ARGUMENT, () -> x.measure(0, 0, 49));
        c.refused("measure(0, 3, 201)", x, Check.ARGUMENT, () -> x.measure(0, 3, 201));
    }

    static void promise06StylesAreThree(Check c) {
        TailorBench x = new TailorBench();
        for (int i = 0; i < 3; i++) {
            c.same("style()", x.style(), i);
        }
        c.same("STYLES", x.many(2), 3);
        c.refused("a fourth", x, Check.STATE, x::style);
        x.person(50, 50, 50, 50);
        c.refused("its PIECE", x, Check.INDEX, () -> x.size(0, 0, 0, false));
    }

    static void promise07PieceIsAsDrawn(Check c) {
        TailorBench x = new TailorBench();
        x.person(60, 77, 83, 90);
        x.style();
        x.style();
        c.same("first", x.piece(1, 1, 38, 0, 1), 1);
        c.same("second", x.piece(1, 13, 25, 40, 4), 2);
        c.same("that of another STYLE", x.piece(0, 38, 1, 3, 2), 1);
        c.same("BODY", x.size(1, 0, 0, false), 7.5);
        c.same("TALL", x.size(1, 0, 0, true), 90.0);
        c.same("BODY with EASE", x.size(1, 1, 0, false), 28.875 + 10.0);
        c.same("TALL without EASE", x.size(1, 1, 0, true), 51.875);
        c.same("quarters", x.size(0, 0, 0, false), 90.75);
        x.order(0, 1, 0);
        c.same("with COUNTS", x.ofOrder(0, 5), 5);
    }

    static void promise07PieceRefuses(Check c) {
        TailorBench x = new TailorBench();
        x.style();
        x.piece(0, 1, 1, 0, 1);
        c.refused("no STYLE", x, Check.INDEX, () -> x.piece(1, 1, 1, 0, 1));
        c.refused("no STYLE below", x, Check.INDEX, () -> x.piece(-1, 0, 1, 0, 1));
        for (int part : new int[] {0, 9, 10, 19, 20, 29, 30, 39, 40, 41, -1, -8, -11, 48, 101,
            Integer.MIN_VALUE, Integer.MAX_VALUE}) {
            c.refused("across " + part, x, Check.ARGUMENT, () -> x.piece(0, part, 1, 0, 1));
            c.refused("along " + part, x, Check.ARGUMENT, () -> x.piece(0, 1, part, 0, 1));
        }
        for (int ease : new int[] {-1, 41}) {
            c.refused("ease " + ease, x, Check.ARGUMENT, () -> x.piece(0, 1, 1, ease, 1));
        }
        for (int count : new int[] {0, 5, -1}) {
            c.refused("count " + count, x, Check.ARGUMENT, () -> x.piece(0, 1, 1, 0, count));
        }
        for (int i = 2; i <= 5; i++) {
            c.same("piece", x.piece(0, 1, 1, 0, 1), i);
        }
        c.refused("a sixth", x, Check.STATE, () -> x.piece(0, 1, 1, 0, 1));
        c.refused("a wrong sixth", x, Check.ARGUMENT, () -> x.piece(0, 1, 1, 0, 5));
    }

    static void promise07PieceRefusesAnOrderedStyle(Check c) {
        TailorBench x = Shops.told();
        c.refused("of an ordered STYLE", x, Check.STATE, () -> x.piece(0, 1, 1, 0, 1));
        c.refused("a wrong one of it", x, Check.ARGUMENT, () -> x.piece(0, 1, 1, 0, 0));
        x.style();
        c.same("of another STYLE", x.piece(1, 1, 1, 0, 1), 1);
    }

    static void promise08HandHasItsPace(Check c) {
        TailorBench x = Shops.cut();
        c.same("second", x.hand(16), 1);
        c.same("third", x.hand(1), 2);
        c.same("HANDS", x.many(3), 3);
        c.same("FREE", x.free(1), 0.0);
        c.same("READY by PACE 2.0", x.sew(0, 1), 1.0);
    }

    static void promise08SlowestHand(Check c) {
        TailorBench x = Shops.cut();
        x.hand(1);
        c.same("READY by PACE 0.125", x.sew(0, 1), 8.5);
    }

    static void promise08HandRefuses(Check c) {
        TailorBench x = new TailorBench();
        c.refused("hand(0)", x, Check.ARGUMENT, () -> x.hand(0));
        c.refused("hand(17)", x, Check.ARGUMENT, () -> x.hand(17));
        c.refused("hand(-8)", x, Check.ARGUMENT, () -> x.hand(-8));
        for (int i = 0; i < 3; i++) {
            c.same("hand(8)", x.hand(8), i);
        }
        c.refused("a fourth", x, Check.STATE, () -> x.hand(8));
        c.refused("a wrong fourth", x, Check.ARGUMENT, () -> x.hand(0));
    }
}
