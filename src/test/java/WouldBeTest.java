/** Promises 26 to 29: another cloth, another order, another hand; the checksum. */
final class WouldBeTest {
    private static final int NONE = Shops.NONE;

    private WouldBeTest() {
    }

    static void promise26BestIsCheapest(Check c) {
        TailorBench x = Shops.plain();
        x.order(0, 0, 0);
        c.same("without CLOTHS", x.best(0), NONE);
        x.cloth(100, 82, 0, 0, false, 1);
        c.same("too short", x.best(0), NONE);
        x.cloth(100, 83, 0, 0, false, 3);
        c.same("just long enough", x.best(0), 1);
        x.cloth(100, 3000, 0, 0, false, 3);
        c.same("of several the first", x.best(0), 1);
        x.cloth(100, 3000, 0, 20, false, 2);
        c.same("200 is less than 249", x.best(0), 3);
    }

    static void promise26BestIsByPriceTimesNeeds(Check c) {
        TailorBench x = Shops.told();
        x.cloth(60, 3000, 0, 0, true, 1);
        // 2 * 83 on CLOTH 0; 60 has ROOM for two of 24, so 1 * 83.
        c.same("a low PRICE", x.best(0), 1);
        x.measure(0, 0, 160);
        // WIDE 44: two into 100, but 1 * 166 into 60: just as much, so the smaller number.
        c.same("more NEEDS", x.best(0), 0);
    }

    static void promise26BestLooksAtNoState(Check c) {
        TailorBench x = Shops.fitted();
        c.same("FITTED", x.best(0), 0);
        x.give(0);
        x.shut(true);
        c.same("GIVEN, SHUT", x.best(0), 0);
        x.measure(0, 0, 200);
        x.measure(0, 3, 200);
        c.same("by the MEASURES of now", x.best(0), 0);
    }

    static void promise26BestNeedsALay(Check c) {
        TailorBench x = Shops.orderOf(Shops.sized(83, 83, 1));
        x.cloth(82, 3000, 0, 0, false, 1);
        c.same("without a LAY", x.best(0), NONE);
        x.cloth(83, 3000, 0, 0, true, 9);
        c.same("with one", x.best(0), 1);
        c.refused("best(-1)", x, Check.INDEX, () -> x.best(-1));
        c.refused("best(1)", x, Check.INDEX, () -> x.best(1));
    }

    /** ORDERS of STYLES: 0 of 53 by 83, 1 of 47 by 33, 2 of 40 by 63; on 100 wide with NAP. */
    private static TailorBench mates() {
        TailorBench x = Shops.orderOf(Shops.sized(53, 83, 1));
        int[][] others = {Shops.sized(47, 33, 1), Shops.sized(40, 63, 1)};
        for (int[] one : others) {
            int style = x.style();
            x.piece(style, one[0], one[1], one[2], one[3]);
            x.order(0, style, 0);
        }
        x.cloth(100, 0, 0, 0, true, 1);
        return x;
    }

    static void promise27MateSavesMost(Check c) {
        TailorBench x = mates();
        c.same("63 is more than 33", x.mate(0, 0), 2);
        c.same("83 and 33", x.mate(1, 0), 0);
        c.same("83 and 63", x.mate(2, 0), 0);
        x.order(0, 2, 0);
        c.same("of several the first", x.mate(0, 0), 2);
    }

    static void promise27MateIsTold(Check c) {
        TailorBench x = mates();
        x.cloth(100, 3000, 0, 0, true, 1);
        x.cut(2, NONE, 1);
        c.same("the other CUT", x.mate(0, 0), 1);
        c.same("this one CUT", x.mate(2, 0), 0);
        x.shut(true);
        c.same("SHUT", x.mate(2, 1), 0);
        x.shut(false);
        x.cut(0, 1, 1);
        c.same("none is TOLD", x.mate(0, 0), NONE);
    }

    static void promise27LittleIsSaved(Check c) {
        TailorBench x = Shops.orderOf(Shops.sized(60, 83, 1));
        x.measure(0, 2, 81);
        x.style();
        int[] one = Shops.sized(60, 73, 1);
        x.piece(1, one[0], one[1], one[2], one[3]);
        // LONG 81 * 7 / 8.0 + 3.0, WIDE 40: alone in the ROW of its own STYLE, else in that of 83.
        int[] other = Shops.sized(40, 73, 1);
        x.piece(1, other[0], 27, other[2], 1);
        x.order(0, 1, 0);
        x.cloth(100, 0, 0, 0, true, 1);
        c.same("alone", x.lay(1, NONE, 0, 0), 73.875);
        c.same("both", x.lay(0, 1, 0, 0), 156.0);
        c.same("0.875 is saved", x.mate(0, 0), 1);
    }

    static void promise27NothingIsSaved(Check c) {
        TailorBench x = Shops.orderOf(Shops.sized(83, 83, 1));
        x.cloth(100, 0, 0, 0, true, 1);
        c.same("alone", x.mate(0, 0), NONE);
        x.order(0, 0, 0);
        c.same("two ROWS", x.mate(0, 0), NONE);
        x.cloth(60, 0, 0, 0, true, 1);
        c.same("without a LAY", x.mate(0, 1), NONE);
    }

    static void promise27MateRefuses(Check c) {
        TailorBench x = mates();
        c.refused("mate(-1, 0)", x, Check.INDEX, () -> x.mate(-1, 0));
        c.refused("mate(3, 0)", x, Check.INDEX, () -> x.mate(3, 0));
        c.refused("mate(0, -1)", x, Check.INDEX, () -> x.mate(0, -1));
        c.refused("mate(0, 1)", x, Check.INDEX, () -> x.mate(0, 1));
        String before = Shops.seen(x);
        x.mate(0, 0);
        c.that("nothing is changed", before.equals(Shops.seen(x)));
    }

    static void promise28SoonestIsReadyFirst(Check c) {
        TailorBench x = Shops.plain();
        x.cloth(100, 3000, 0, 0, false, 1);
        x.order(0, 0, 0);
        x.order(0, 0, 0);
        c.same("without HANDS", x.soonest(0), NONE);
        x.hand(8);
        c.same("only one", x.soonest(0), 0);
        x.hand(8);
        c.same("of several the first", x.soonest(0), 0);
        x.hand(9);
        c.same("the fastest", x.soonest(0), 2);
        x.cut(0, 1, 0);
        x.sew(0, 2);
        c.same("the fastest has to do", x.soonest(1), 0);
        c.same("whatever its STATE", x.soonest(0), 0);
        x.pass(10);
        c.same("later on all are FREE", x.soonest(1), 2);
        x.shut(true);
        c.same("SHUT", x.soonest(1), 2);
    }

    static void promise28SoonestRefuses(Check c) {
        TailorBench x = Shops.told();
        c.refused("soonest(-1)", x, Check.INDEX, () -> x.soonest(-1));
        c.refused("soonest(1)", x, Check.INDEX, () -> x.soonest(1));
    }

    static void promise29DigestOfAnEmptyShop(Check c) {
        long d = 58315L;
        for (int i = 0; i < 15; i++) {
            d *= 31L;
        }
        c.same("digest()", new TailorBench().digest(), d);
    }

    static void promise29DigestIsOfAllAnswers(Check c) {
        TailorBench x = Shops.fitted();
        x.style();
        x.piece(1, 8, 8, 0, 1);
        x.piece(1, 14, 8, 3, 2);
        x.order(0, 1, 3);
        x.cloth(90, 77, 5, 0, true, 3);
        x.hand(3);
        x.cut(1, NONE, 0);
        x.sew(1, 1);
        x.measure(0, 0, 83);
        c.that("TIGHT is of two kinds", x.tight(1, true) != x.tight(1, false));
        x.give(0);
        x.bell();
        long d = 58315L;
        for (int what = 0; what < 14; what++) {
            d = d * 31L + x.many(what);
        }
        for (int i = 0; i < 2; i++) {
            for (int what = 0; what < 3; what++) {
                d = d * 31L + (long) (64 * x.ofCloth(i, what));
            }
        }
        for (int i = 0; i < 2; i++) {
            for (int what = 0; what < 8; what++) {
                d = d * 31L + x.ofOrder(i, what);
            }
            d = d * 31L + (long) (64 * x.tight(i, true));
            d = d * 31L + (long) (64 * x.tight(i, false));
            d = d * 31L + (long) (64 * x.ready(i));
            d = d * 31L + x.best(i);
            d = d * 31L + x.soonest(i);
            for (int cloth = 0; cloth < 2; cloth++) {
                d = d * 31L + (long) (64 * x.lay(i, NONE, cloth, 0));
            }
        }
        d = d * 31L + (long) (64 * x.free(0));
        d = d * 31L + (long) (64 * x.free(1));
        d = d * 31L + (long) (64 * x.clock());
        c.same("digest()", x.digest(), d);
        c.same("digest() again", x.digest(), d);
    }
}
