/** Promises 9 to 16: orders taken, cut, sewn, fitted, given; hours, the door and the bell. */
final class OrdersTest {
    private static final int NONE = Shops.NONE;
    private static final int STATE = 3;

    private OrdersTest() {
    }

    // ---- promise 9

    static void promise09OrderIsAsTaken(Check c) {
        TailorBench x = Shops.cut();
        x.person(100, 100, 100, 100);
        x.style();
        x.piece(1, 1, 1, 0, 3);
        x.piece(1, 1, 1, 0, 4);
        x.pass(1);
        c.same("its number", x.order(1, 1, 400), 1);
        int[] due = {1, 1, 401, 0, NONE, 7, NONE, NONE};
        for (int what = 0; what < due.length; what++) {
            c.same("ofOrder(1, " + what + ")", x.ofOrder(1, what), due[what]);
        }
        c.same("ORDERS", x.many(4), 2);
        x.order(0, 0, 0);
        c.same("DUE of 1.5 and 0", x.ofOrder(2, 2), 1);
    }

    static void promise09OrderRefuses(Check c) {
        TailorBench x = Shops.told();
        c.refused("order(-1, 0, 0)", x, Check.INDEX, () -> x.order(-1, 0, 0));
        c.refused("order(1, 0, 0)", x, Check.INDEX, () -> x.order(1, 0, 0));
        c.refused("order(0, -1, 0)", x, Check.INDEX, () -> x.order(0, -1, 0));
        c.refused("order(0, 1, 0)", x, Check.INDEX, () -> x.order(0, 1, 0));
        c.refused("order(0, 1, 401)", x, Check.INDEX, () -> x.order(0, 1, 401));
        c.refused("order(0, 0, -1)", x, Check.ARGUMENT, () -> x.order(0, 0, -1));
        c.refused("order(0, 0, 401)", x, Check.ARGUMENT, () -> x.order(0, 0, 401));
        x.style();
        c.refused("of no PIECES", x, Check.STATE, () -> x.order(0, 1, 0));
        c.refused("of no PIECES, late", x, Check.ARGUMENT, () -> x.order(0, 1, 401));
        x.piece(1, 1, 1, 0, 1);
        for (int i = 1; i < 8; i++) {
            c.same("order", x.order(0, 0, 0), i);
        }
        c.refused("a ninth", x, Check.STATE, () -> x.order(0, 0, 0));
        c.refused("a wrong ninth", x, Check.ARGUMENT, () -> x.order(0, 0, -1));
        c.same("a refused ORDER binds no STYLE", x.piece(1, 1, 1, 0, 1), 2);
    }

    static void promise09ShutShopTakesOrders(Check c) {
        TailorBench x = Shops.told();
        x.shut(true);
        c.same("order", x.order(0, 0, 0), 1);
    }

    // ---- promise 10

    static void promise10CutsOne(Check c) {
        TailorBench x = Shops.told();
        x.order(0, 0, 0);
        c.same("LENGTH", x.cut(0, NONE, 0), 917.0);
        c.same("LENGTH later", x.ofCloth(0, 1), 917.0);
        c.same("CLOCK", x.clock(), 0.5);
        c.same("STATE", x.ofOrder(0, STATE), 1);
        c.same("CLOTH", x.ofOrder(0, 4), 0);
        c.same("STATE of the other", x.ofOrder(1, STATE), 0);
        c.same("CLOTH of the other", x.ofOrder(1, 4), NONE);
    }

    static void promise10CutsTwoTogether(Check c) {
        TailorBench x = Shops.told();
        x.cloth(100, 84, 0, 0, false, 2);
        x.order(0, 0, 0);
        c.same("LENGTH", x.cut(1, 0, 1), 1.0);
        c.same("CLOCK", x.clock(), 1.0);
        for (int i = 0; i < 2; i++) {
            c.same("STATE", x.ofOrder(i, STATE), 1);
            c.same("CLOTH", x.ofOrder(i, 4), 1);
        }
        c.same("LENGTH of the other CLOTH", x.ofCloth(0, 1), 1000.0);
    }

    static void promise10LengthMayBeJustEnough(Check c) {
        TailorBench x = Shops.told();
        x.cloth(100, 83, 0, 0, true, 2);
        x.cloth(100, 82, 0, 0, true, 2);
        String before = Shops.seen(x);
        c.same("too short", x.cut(0, NONE, 2), -3.0);
        c.that("too short, nothing is done", before.equals(Shops.seen(x)));
        c.same("just enough", x.cut(0, NONE, 1), 0.0);
    }

    static void promise10NoLay(Check c) {
        TailorBench x = Shops.orderOf(Shops.sized(83, 83, 1));
        x.order(0, 0, 0);
        x.cloth(82, 0, 0, 0, false, 1);
        String before = Shops.seen(x);
        c.same("no LAY and too short", x.cut(0, NONE, 0), -2.0);
        c.same("no LAY of both", x.cut(0, 1, 0), -2.0);
        c.that("nothing is done", before.equals(Shops.seen(x)));
    }

    static void promise10KeepsBodyOfThen(Check c) {
        TailorBench x = Shops.told();
        x.measure(0, 0, 100);
        x.cut(0, NONE, 0);
        c.same("TIGHT at once", x.tight(0, true), 0.0);
        x.measure(0, 0, 104);
        c.same("TIGHT later", x.tight(0, true), 1.0);
    }

    static void promise10CutRefuses(Check c) {
        TailorBench x = Shops.told();
        x.order(0, 0, 0);
        c.refused("cut(-1, 1, 0)", x, Check.INDEX, () -> x.cut(-1, 1, 0));
        c.refused("cut(-1, -1, 0)", x, Check.INDEX, () -> x.cut(-1, -1, 0));
        c.refused("cut(2, 1, 0)", x, Check.INDEX, () -> x.cut(2, 1, 0));
        c.refused("cut(2, 2, 0)", x, Check.INDEX, () -> x.cut(2, 2, 0));
        c.refused("cut(0, 2, 0)", x, Check.INDEX, () -> x.cut(0, 2, 0));
        c.refused("cut(0, -2, 0)", x, Check.INDEX, () -> x.cut(0, -2, 0));
        c.refused("cut(0, 1, -1)", x, Check.INDEX, () -> x.cut(0, 1, -1));
        c.refused("cut(0, 0, 1)", x, Check.INDEX, () -> x.cut(0, 0, 1));
        c.refused("cut(0, 0, 0)", x, Check.ARGUMENT, () -> x.cut(0, 0, 0));
        x.shut(true);
        c.refused("cut(0, 0, 0), SHUT", x, Check.ARGUMENT, () -> x.cut(0, 0, 0));
        c.refused("cut(0, -1, 0), SHUT", x, Check.STATE, () -> x.cut(0, NONE, 0));
        c.refused("cut(0, -1, 1), SHUT", x, Check.INDEX, () -> x.cut(0, NONE, 1));
        x.shut(false);
        x.cut(1, NONE, 0);
        c.refused("cut(1, -1, 0), CUT", x, Check.STATE, () -> x.cut(1, NONE, 0));
        c.refused("cut(0, 1, 0), other CUT", x, Check.STATE, () -> x.cut(0, 1, 0));
        c.refused("cut(1, 0, 0), first CUT", x, Check.STATE, () -> x.cut(1, 0, 0));
    }

    static void promise10CutIsHeldTo2000(Check c) {
        TailorBench x = Shops.told();
        for (int i = 0; i < 20; i++) {
            x.pass(100);
        }
        x.cut(0, NONE, 0);
        c.same("CLOCK", x.clock(), 2000.0);
    }

    // ---- promise 11

    static void promise11SewsFromTheClockOn(Check c) {
        TailorBench x = Shops.cut();
        c.same("READY", x.sew(0, 0), 1.5);
        c.same("READY later", x.ready(0), 1.5);
        c.same("FREE", x.free(0), 1.5);
        c.same("STATE", x.ofOrder(0, STATE), 2);
        c.same("HAND", x.ofOrder(0, 7), 0);
        c.same("CLOCK stays", x.clock(), 0.5);
    }

    static void promise11SewsAfterWhatWasBefore(Check c) {
        TailorBench x = Shops.cut();
        x.hand(3);
        x.order(0, 0, 0);
        x.cut(1, NONE, 0);
        c.same("READY of the first", x.sew(0, 1), 1.0 + 1.0 / 0.375);
        c.same("READY of the second", x.sew(1, 1), 1.0 + 1.0 / 0.375 + 1.0 / 0.375);
        c.same("FREE", x.free(1), x.ready(1));
        c.same("FREE of the other", x.free(0), 0.0);
        c.same("its HAND", x.ofOrder(1, 7), 1);
    }

    static void promise11SewRefuses(Check c) {
        TailorBench x = Shops.cut();
        x.order(0, 0, 0);
        c.refused("sew(-1, 0)", x, Check.INDEX, () -> x.sew(-1, 0));
        c.refused("sew(2, 0)", x, Check.INDEX, () -> x.sew(2, 0));
        c.refused("sew(0, -1)", x, Check.INDEX, () -> x.sew(0, -1));
        c.refused("sew(0, 1)", x, Check.INDEX, () -> x.sew(0, 1));
        c.refused("sew(1, 1), TOLD", x, Check.INDEX, () -> x.sew(1, 1));
        c.refused("sew(1, 0), TOLD", x, Check.STATE, () -> x.sew(1, 0));
        x.shut(true);
        c.refused("sew(0, 0), SHUT", x, Check.STATE, () -> x.sew(0, 0));
        c.refused("sew(0, 1), SHUT", x, Check.INDEX, () -> x.sew(0, 1));
        x.shut(false);
        x.sew(0, 0);
        c.refused("sew(0, 0), SEWN", x, Check.STATE, () -> x.sew(0, 0));
    }

    // ---- promise 12

    /** An ORDER of one PIECE by this part ACROSS, SEWN and READY, cut at a chest of 100. */
    private static TailorBench toFit(int... across) {
        TailorBench x = new TailorBench();
        x.person(100, 100, 100, 100);
        x.style();
        for (int one : across) {
            x.piece(0, one, 1, 0, 1);
        }
        x.cloth(160, 1000, 0, 0, false, 1);
        x.hand(8);
        x.order(0, 0, 0);
        x.cut(0, NONE, 0);
        x.sew(0, 0);
        x.pass(10);
        return x;
    }

    private static void fits(Check c, int across, int chest, int told) {
        TailorBench x = toFit(across);
        x.measure(0, 0, chest);
        String what = "across " + across + " from 100 to " + chest;
        c.same(what, x.fit(0), told);
        c.same(what + ", told later", x.ofOrder(0, 6), told);
        c.same(what + ", STATE", x.ofOrder(0, STATE), told == 3 ? 5 : 3);
        double more = told == 1 ? 1.0 : told == 2 ? 0.5 : 0.0;
        c.same(what + ", CLOCK", x.clock(), 10.25 + more);
    }

    static void promise12FitIsByTheEdges(Check c) {
        fits(c, 8, 100, 0);
        fits(c, 4, 101, 0);
        fits(c, 5, 101, 1);
        fits(c, 8, 103, 1);
        fits(c, 1, 124, 1);
        fits(c, 1, 125, 3);
        fits(c, 8, 104, 3);
        fits(c, 8, 96, 0);
        fits(c, 1, 67, 2);
        fits(c, 8, 95, 2);
    }

    static void promise12FitIsByTheGreatestFirst(Check c) {
        TailorBench x = toFit(8, 18, 28);
        x.measure(0, 1, 110);
        x.measure(0, 2, 60);
        c.same("SPOILED by the second", x.fit(0), 3);
        TailorBench y = toFit(8, 18, 28);
        y.measure(0, 0, 60);
        y.measure(0, 2, 102);
        c.same("LET OUT ahead of TAKEN IN", y.fit(0), 1);
        TailorBench z = toFit(8, 18, 28);
        z.measure(0, 1, 60);
        c.same("TAKEN IN by the second", z.fit(0), 2);
    }

    static void promise12FitWaitsForReady(Check c) {
        TailorBench x = Shops.told();
        x.order(0, 0, 0);
        x.cut(0, 1, 0);
        x.sew(0, 0);
        x.sew(1, 0);
        x.pass(1);
        String before = Shops.seen(x);
        c.same("READY at 3.0, CLOCK at 2.0", x.fit(1), -2);
        c.that("nothing is done", before.equals(Shops.seen(x)));
        c.same("READY at 2.0, CLOCK at 2.0", x.fit(0), 0);
        c.same("STATE", x.ofOrder(1, STATE), 2);
        x.pass(1);
        c.same("READY at 3.0, CLOCK at 3.0", x.fit(1), 0);
    }

    static void promise12FitRefuses(Check c) {
        TailorBench x = Shops.waiting();
        x.order(0, 0, 0);
        x.order(0, 0, 0);
        x.cut(2, NONE, 0);
        c.refused("fit(-1)", x, Check.INDEX, () -> x.fit(-1));
        c.refused("fit(3)", x, Check.INDEX, () -> x.fit(3));
        c.refused("fit(1), TOLD", x, Check.STATE, () -> x.fit(1));
        c.refused("fit(2), CUT", x, Check.STATE, () -> x.fit(2));
        x.shut(true);
        c.refused("fit(0), SHUT", x, Check.STATE, () -> x.fit(0));
        c.refused("fit(3), SHUT", x, Check.INDEX, () -> x.fit(3));
        x.shut(false);
        x.fit(0);
        c.refused("fit(0), FITTED", x, Check.STATE, () -> x.fit(0));
        x.give(0);
        c.refused("fit(0), GIVEN", x, Check.STATE, () -> x.fit(0));
    }

    static void promise12SpoiledIsNeverFitAgain(Check c) {
        TailorBench x = toFit(8);
        x.measure(0, 0, 110);
        x.fit(0);
        x.measure(0, 0, 100);
        c.refused("fit(0), SPOILED", x, Check.STATE, () -> x.fit(0));
        c.refused("give(0), SPOILED", x, Check.STATE, () -> x.give(0));
        c.refused("sew(0, 0), SPOILED", x, Check.STATE, () -> x.sew(0, 0));
        c.refused("cut(0, -1, 0), SPOILED", x, Check.STATE, () -> x.cut(0, NONE, 0));
    }

    // ---- promise 13

    /** One, or two together, of a PIECE of COUNT 4 and LONG 63, on a CLOTH of 160. */
    private static TailorBench toGive(boolean areTwo, int stripe, int price, int hours, int pass) {
        TailorBench x = Shops.orderOf(Shops.sized(13, 63, 4));
        if (areTwo) {
            x.order(0, 0, hours);
        }
        x.cloth(160, 1000, 0, stripe, false, price);
        x.hand(16);
        x.cut(0, areTwo ? 1 : NONE, 0);
        x.sew(0, 0);
        x.pass(pass);
        x.fit(0);
        return x;
    }

    static void promise13GivePaysPiecesLessCloth(Check c) {
        TailorBench x = toGive(false, 0, 1, 0, 1);
        c.same("0.63 of CLOTH", x.give(0), 20 + 20 - 1);
        c.same("STATE", x.ofOrder(0, STATE), 4);
        c.same("PURSE", x.many(11), 39);
        c.same("of 9", toGive(false, 0, 9, 0, 1).give(0), 20 + 20 - 6);
        c.same("just 4", toGive(false, 20, 5, 0, 1).give(0), 20 + 20 - 4);
        c.same("4.8", toGive(false, 20, 6, 0, 1).give(0), 20 + 20 - 5);
        c.same("5.04", toGive(false, 0, 8, 0, 1).give(0), 20 + 20 - 6);
    }

    static void promise13GiveSharesTheCloth(Check c) {
        c.same("half of 0.8", toGive(true, 20, 1, 0, 1).give(0), 40 - 1);
        c.same("half of 4.0", toGive(true, 20, 5, 0, 1).give(0), 40 - 2);
        c.same("half of 5.6", toGive(true, 20, 7, 0, 1).give(0), 40 - 3);
        TailorBench x = toGive(true, 20, 5, 0, 1);
        x.sew(1, 0);
        x.pass(2);
        x.fit(1);
        c.same("the other half", x.give(1), 40 - 2);
        c.same("the first half", x.give(0), 40 - 2);
        c.same("PURSE", x.many(11), 76);
    }

    static void promise13GiveIsLateByWholeEights(Check c) {
        // CUTTING took 1.0, so the CLOCK is at 1.0 and what passes; DUE is 0.
        c.same("8.0 late", toGive(false, 0, 1, 0, 7).give(0), 39 - 3);
        c.same("7.0 late", toGive(false, 0, 1, 0, 6).give(0), 39);
        c.same("15.0 late", toGive(false, 0, 1, 0, 14).give(0), 39 - 3);
        c.same("16.0 late", toGive(false, 0, 1, 0, 15).give(0), 39 - 6);
        c.same("96.0 late", toGive(false, 0, 1, 0, 95).give(0), 39 - 36);
        TailorBench early = Shops.ready();
        early.order(0, 0, 400);
        early.cut(0, NONE, 0);
        early.sew(0, 0);
        early.pass(100);
        early.fit(0);
        c.same("early", early.give(0), 20 + 10 - 2);
    }

    static void promise13LatenessHasFractions(Check c) {
        TailorBench x = Shops.fitted();
        c.same("8.5 late", x.give(0), 20 + 10 - 2 - 3);
        TailorBench y = Shops.sewn();
        y.pass(7);
        y.fit(0);
        c.same("7.5 late", y.give(0), 20 + 10 - 2);
    }

    static void promise13LatenessIsBeyondDue(Check c) {
        TailorBench x = Shops.ready();
        x.order(0, 0, 10);
        x.cut(0, NONE, 0);
        x.sew(0, 0);
        x.pass(34);
        x.fit(0);
        c.same("34.5, DUE at 10", x.give(0), 20 + 10 - 2 - 9);
    }

    static void promise13PurseMayBeBelowZero(Check c) {
        TailorBench x = Shops.sewn();
        for (int i = 0; i < 20; i++) {
            x.pass(100);
        }
        x.fit(0);
        c.same("2000.0 late", x.give(0), 28 - 750);
        c.same("PURSE", x.many(11), -722);
    }

    static void promise13CostIsThatOfTheCut(Check c) {
        TailorBench x = Shops.fitted();
        x.measure(0, 3, 200);
        x.wash(0);
        c.same("as it was CUT", x.give(0), 25);
    }

    static void promise13GiveRefuses(Check c) {
        TailorBench x = Shops.fitted();
        for (int i = 1; i < 4; i++) {
            x.order(0, 0, 0);
        }
        x.cut(2, 3, 0);
        x.sew(3, 0);
        c.refused("give(-1)", x, Check.INDEX, () -> x.give(-1));
        c.refused("give(4)", x, Check.INDEX, () -> x.give(4));
        for (int i = 1; i < 4; i++) {
            int order = i;
            c.refused("give(" + i + ")", x, Check.STATE, () -> x.give(order));
        }
        x.shut(true);
        c.refused("give(0), SHUT", x, Check.STATE, () -> x.give(0));
        c.refused("give(4), SHUT", x, Check.INDEX, () -> x.give(4));
        x.shut(false);
        x.give(0);
        c.refused("give(0), GIVEN", x, Check.STATE, () -> x.give(0));
    }

    // ---- promises 14 to 16

    static void promise14PassMovesTheClock(Check c) {
        TailorBench x = Shops.cut();
        c.same("pass(1)", x.pass(1), 1.5);
        c.same("pass(100)", x.pass(100), 101.5);
        c.same("CLOCK", x.clock(), 101.5);
        for (int i = 0; i < 18; i++) {
            x.pass(100);
        }
        c.same("pass(98)", x.pass(98), 1999.5);
        c.same("held", x.pass(1), 2000.0);
        c.same("held again", x.pass(100), 2000.0);
        c.same("CLOCK held", x.clock(), 2000.0);
    }

    static void promise14PassRefuses(Check c) {
        TailorBench x = Shops.cut();
        for (int hours : new int[] {0, -1, 101, Integer.MIN_VALUE, Integer.MAX_VALUE}) {
            c.refused("pass(" + hours + ")", x, Check.ARGUMENT, () -> x.pass(hours));
        }
        x.shut(true);
        c.same("pass(1), SHUT", x.pass(1), 1.5);
    }

    static void promise15ShutTellsWhatWas(Check c) {
        TailorBench x = Shops.told();
        c.that("open at first", !x.shut(true));
        c.same("SHUT", x.many(12), 1);
        c.that("SHUT then", x.shut(true));
        c.that("SHUT still", x.shut(false));
        c.same("open", x.many(12), 0);
        c.that("open then", !x.shut(false));
        c.same("cut once it is open", x.cut(0, NONE, 0), 917.0);
    }

    static void promise15ShutShopStillAnswers(Check c) {
        TailorBench x = Shops.told();
        x.shut(true);
        c.same("cloth", x.cloth(100, 1, 0, 0, false, 1), 1);
        c.same("person", x.person(50, 50, 50, 50), 1);
        c.same("style", x.style(), 1);
        c.same("piece", x.piece(1, 1, 1, 0, 1), 1);
        c.same("hand", x.hand(1), 1);
        c.same("wash", x.wash(1), 1.0);
        c.same("measure", x.measure(1, 0, 60), 50);
        c.same("best", x.best(0), 0);
        c.same("soonest", x.soonest(0), 0);
    }

    static void promise16BellCounts(Check c) {
        TailorBench x = Shops.told();
        for (int i = 1; i <= 30; i++) {
            if (i % 7 == 0) {
                x.shut(i % 2 == 0);
            }
            c.same("bell()", x.bell(), i);
            c.same("REFUSED", x.many(13), i);
        }
    }

    static void promise16BellHoldsNothing(Check c) {
        TailorBench x = Shops.told();
        x.bell();
        c.same("cut", x.cut(0, NONE, 0), 917.0);
        c.same("SHUT", x.many(12), 0);
        c.same("CLOCK", x.clock(), 0.5);
        c.refused("a refused call counts nothing", x, Check.INDEX, () -> x.wash(9));
        c.same("REFUSED", x.many(13), 1);
    }
}
