/** Promises 17 to 24: what is asked. */
final class AskedTest {
    private static final int NONE = Shops.NONE;

    private AskedTest() {
    }

    static void promise17OfClothAnswersAll(Check c) {
        TailorBench x = new TailorBench();
        x.cloth(61, 62, 7, 3, true, 8);
        double[] due = {61.0, 62.0, 7.0 / 64.0, 3.0, 1.0, 8.0};
        for (int what = 0; what < due.length; what++) {
            c.same("ofCloth(0, " + what + ")", x.ofCloth(0, what), due[what]);
        }
    }

    static void promise17OfClothRefuses(Check c) {
        TailorBench x = Shops.told();
        c.refused("ofCloth(-1, 0)", x, Check.INDEX, () -> x.ofCloth(-1, 0));
        c.refused("ofCloth(1, 0)", x, Check.INDEX, () -> x.ofCloth(1, 0));
        c.refused("ofCloth(1, 6)", x, Check.INDEX, () -> x.ofCloth(1, 6));
        c.refused("ofCloth(0, -1)", x, Check.ARGUMENT, () -> x.ofCloth(0, -1));
        c.refused("ofCloth(0, 6)", x, Check.ARGUMENT, () -> x.ofCloth(0, 6));
    }

    static void promise18SizeAnswersBodyAndTall(Check c) {
        TailorBench x = new TailorBench();
        x.person(97, 60, 70, 181);
        x.person(55, 61, 71, 101);
        x.style();
        x.piece(0, 3, 37, 5, 1);
        x.piece(0, 25, 11, 0, 1);
        c.same("BODY", x.size(0, 0, 0, false), 97 * 3 / 8.0 + 1.25);
        c.same("TALL", x.size(0, 0, 0, true), 181 * 7 / 8.0);
        c.same("BODY of the second", x.size(0, 1, 1, false), 71 * 5 / 8.0);
        c.same("TALL of the second", x.size(0, 1, 1, true), 61 / 8.0);
    }

    static void promise18SizeOfEveryPart(Check c) {
        int[] measures = {56, 72, 101, 187};
        for (int m = 0; m < 4; m++) {
            for (int eighths = 1; eighths <= 8; eighths++) {
                TailorBench x = new TailorBench();
                x.person(measures[0], measures[1], measures[2], measures[3]);
                x.style();
                x.piece(0, 10 * m + eighths, 1, 0, 1);
                x.piece(0, 1, 10 * m + eighths, 40, 1);
                double due = measures[m] * eighths / 8.0;
                c.same("across " + m + ", " + eighths, x.size(0, 0, 0, false), due);
                c.same("along " + m + ", " + eighths, x.size(0, 1, 0, true), due);
            }
        }
    }

    static void promise18SizeRefuses(Check c) {
        TailorBench x = Shops.told();
        c.refused("size(-1, 0, 0)", x, Check.INDEX, () -> x.size(-1, 0, 0, true));
        c.refused("size(1, 0, 0)", x, Check.INDEX, () -> x.size(1, 0, 0, true));
        c.refused("size(0, -1, 0)", x, Check.INDEX, () -> x.size(0, -1, 0, false));
        c.refused("size(0, 1, 0)", x, Check.INDEX, () -> x.size(0, 1, 0, false));
        c.refused("size(0, 5, 0)", x, Check.INDEX, () -> x.size(0, 5, 0, false));
        c.refused("size(0, 0, -1)", x, Check.INDEX, () -> x.size(0, 0, -1, true));
        c.refused("size(0, 0, 1)", x, Check.INDEX, () -> x.size(0, 0, 1, true));
    }

    static void promise19OfOrderGoesThroughTheStates(Check c) {
        TailorBench x = Shops.told();
        x.cloth(100, 500, 0, 0, false, 1);
        x.hand(8);
        sameOrder(c, "TOLD", x, 0, NONE, NONE, NONE);
        x.cut(0, NONE, 1);
        sameOrder(c, "CUT", x, 1, 1, NONE, NONE);
        x.sew(0, 1);
        sameOrder(c, "SEWN", x, 2, 1, NONE, 1);
        x.fit(0);
        sameOrder(c, "not READY", x, 2, 1, NONE, 1);
        x.pass(5);
        x.fit(0);
        sameOrder(c, "FITTED", x, 3, 1, 0, 1);
        x.give(0);
        sameOrder(c, "GIVEN", x, 4, 1, 0, 1);
    }

    private static void sameOrder(Check c, String when, TailorBench x, int state, int cloth,
            int told, int hand) {
        int[] due = {0, 0, 0, state, cloth, 2, told, hand};
        for (int what = 0; what < due.length; what++) {
            c.same(when + ": ofOrder(0, " + what + ")", x.ofOrder(0, what), due[what]);
        }
    }

    static void promise19OfOrderRefuses(Check c) {
        TailorBench x = Shops.told();
        c.refused("ofOrder(-1, 0)", x, Check.INDEX, () -> x.ofOrder(-1, 0));
        c.refused("ofOrder(1, 0)", x, Check.INDEX, () -> x.ofOrder(1, 0));
        c.refused("ofOrder(1, 8)", x, Check.INDEX, () -> x.ofOrder(1, 8));
        c.refused("ofOrder(0, -1)", x, Check.ARGUMENT, () -> x.ofOrder(0, -1));
        c.refused("ofOrder(0, 8)", x, Check.ARGUMENT, () -> x.ofOrder(0, 8));
    }

    static void promise20TightIsOfNow(Check c) {
        TailorBench x = Shops.orderOf(new int[] {8, 1, 0, 1}, new int[] {14, 1, 0, 1},
                new int[] {28, 1, 0, 1});
        x.cloth(160, 1000, 0, 0, false, 1);
        x.hand(16);
        x.measure(0, 0, 90);
        c.same("TOLD, most", x.tight(0, true), 0.0);
        c.same("TOLD, least", x.tight(0, false), 0.0);
        x.cut(0, NONE, 0);
        x.measure(0, 0, 95);
        x.measure(0, 1, 83);
        c.same("CUT, most", x.tight(0, true), 5.0);
        c.same("CUT, least", x.tight(0, false), 0.0);
        x.measure(0, 2, 79);
        c.same("below", x.tight(0, false), -1.0);
        x.measure(0, 0, 80);
        x.measure(0, 1, 70);
        x.measure(0, 2, 77);
        c.same("most of all below", x.tight(0, true), -3.0);
        c.same("least of all below", x.tight(0, false), -10.0);
        x.measure(0, 0, 96);
        x.measure(0, 1, 90);
        x.measure(0, 2, 84);
        c.same("least of all above", x.tight(0, false), 4.0);
        x.sew(0, 0);
        c.same("SEWN", x.tight(0, true), 6.0);
        x.pass(9);
        x.fit(0);
        c.same("SPOILED", x.tight(0, true), 6.0);
        x.measure(0, 0, 100);
        c.same("SPOILED, of now", x.tight(0, true), 10.0);
    }

    static void promise20TightOfGiven(Check c) {
        TailorBench x = Shops.fitted();
        x.measure(0, 0, 120);
        c.same("FITTED", x.tight(0, true), 10.0);
        x.give(0);
        c.same("GIVEN", x.tight(0, false), 10.0);
    }

    static void promise20TightRefuses(Check c) {
        TailorBench x = Shops.told();
        c.refused("tight(-1)", x, Check.INDEX, () -> x.tight(-1, true));
        c.refused("tight(1)", x, Check.INDEX, () -> x.tight(1, false));
    }

    static void promise21ReadyIsThatOfSewing(Check c) {
        TailorBench x = Shops.told();
        c.same("TOLD", x.ready(0), -1.0);
        x.cut(0, NONE, 0);
        c.same("CUT", x.ready(0), -1.0);
        x.sew(0, 0);
        c.same("SEWN", x.ready(0), 1.5);
        x.pass(9);
        x.fit(0);
        c.same("FITTED", x.ready(0), 1.5);
        c.refused("ready(-1)", x, Check.INDEX, () -> x.ready(-1));
        c.refused("ready(1)", x, Check.INDEX, () -> x.ready(1));
    }

    static void promise22FreeIsOfTheHand(Check c) {
        TailorBench x = Shops.cut();
        x.hand(8);
        x.pass(4);
        c.same("ahead", x.free(0), 0.0);
        x.sew(0, 0);
        c.same("after", x.free(0), 5.5);
        c.same("of the other", x.free(1), 0.0);
        c.refused("free(-1)", x, Check.INDEX, () -> x.free(-1));
        c.refused("free(2)", x, Check.INDEX, () -> x.free(2));
    }

    static void promise22FreeMayBeBeyondTheLastHour(Check c) {
        TailorBench x = Shops.cut();
        for (int i = 0; i < 20; i++) {
            x.pass(100);
        }
        c.same("READY", x.sew(0, 0), 2001.0);
        c.same("FREE", x.free(0), 2001.0);
        x.pass(100);
        c.same("never READY", x.fit(0), -2);
    }

    static void promise23ClockIsThatOfNow(Check c) {
        TailorBench x = Shops.told();
        c.same("at first", x.clock(), 0.0);
        x.cut(0, NONE, 0);
        c.same("CUT", x.clock(), 0.5);
        x.pass(3);
        c.same("passed", x.clock(), 3.5);
    }

    static void promise24ManyCounts(Check c) {
        TailorBench x = new TailorBench();
        x.cloth(160, 3000, 0, 0, false, 9);
        for (int i = 0; i < 5; i++) {
            x.person(80, 80, 80, 160);
        }
        x.style();
        x.style();
        x.piece(0, 8, 8, 0, 1);
        x.hand(16);
        x.hand(16);
        x.hand(16);
        for (int i = 0; i < 8; i++) {
            x.order(i == 7 ? 1 : 0, 0, 400);
        }
        for (int i = 1; i < 8; i++) {
            x.cut(i, NONE, 0);
        }
        for (int i = 3; i < 8; i++) {
            x.sew(i, i % 3);
        }
        x.pass(20);
        x.measure(1, 0, 90);
        for (int i = 4; i < 8; i++) {
            x.fit(i);
        }
        x.give(4);
        x.shut(true);
        x.bell();
        x.bell();
        // 83 * 9 / 100.0 is 7.47, so 8: 20 + 5 - 8.
        int[] due = {1, 5, 2, 3, 8, 1, 2, 1, 2, 1, 1, 17, 1, 2};
        for (int what = 0; what < due.length; what++) {
            c.same("many(" + what + ")", x.many(what), due[what]);
        }
    }

    static void promise24ManyRefuses(Check c) {
        TailorBench x = Shops.told();
        for (int what : new int[] {-1, 14, Integer.MIN_VALUE, Integer.MAX_VALUE}) {
            c.refused("many(" + what + ")", x, Check.ARGUMENT, () -> x.many(what));
        }
    }
}
