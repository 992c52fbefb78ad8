/** Shops to begin a test with, in numbers that are easy to reckon. */
final class Shops {
    static final int NONE = -1;

    private Shops() {
    }

    /** What a shop shows of itself: all that a refused call could have changed. */
    static String seen(TailorBench x) {
        StringBuilder text = new StringBuilder();
        text.append(x.digest());
        for (int i = 0; i < x.many(0); i++) {
            text.append(' ').append(x.ofCloth(i, 3)).append(' ').append(x.ofCloth(i, 4));
            text.append(' ').append(x.ofCloth(i, 5));
        }
        return text.toString();
    }

    /**
     * One of 80, 80, 80 and 160 (an eighth is 10, of the height 20), and a STYLE of one PIECE: BODY
     * 21.0, TALL 80.0, so WIDE 24.0 and LONG 83.0 on a CLOTH that does not shrink; COUNT 2.
     */
    static TailorBench plain() {
        TailorBench x = new TailorBench();
        x.person(80, 80, 80, 160);
        x.style();
        x.piece(0, 2, 34, 4, 2);
        return x;
    }

    /** The same with a CLOTH of 100 by 1000 at 2, without STRIPE and NAP, and a HAND of PACE 1.0. */
    static TailorBench ready() {
        TailorBench x = plain();
        x.cloth(100, 1000, 0, 0, false, 2);
        x.hand(8);
        return x;
    }

    /** That with an ORDER 0, DUE at once. */
    static TailorBench told() {
        TailorBench x = ready();
        x.order(0, 0, 0);
        return x;
    }

    static TailorBench cut() {
        TailorBench x = told();
        x.cut(0, NONE, 0);
        return x;
    }

    static TailorBench sewn() {
        TailorBench x = cut();
        x.sew(0, 0);
        return x;
    }

    /** CUT takes 0.5 hours, SEWING 1.0, and then 8 have gone by: the CLOCK is at 8.5. */
    static TailorBench waiting() {
        TailorBench x = sewn();
        x.pass(8);
        return x;
    }

    static TailorBench fitted() {
        TailorBench x = waiting();
        x.fit(0);
        return x;
    }

    /** One of 80, 80, 80 and 160 and an ORDER of a STYLE of these PIECES (each as piece takes it). */
    static TailorBench orderOf(int[]... pieces) {
        TailorBench x = new TailorBench();
        x.person(80, 80, 80, 160);
        x.style();
        for (int[] one : pieces) {
            x.piece(0, one[0], one[1], one[2], one[3]);
        }
        x.order(0, 0, 0);
        return x;
    }

    /** So that a PIECE of orderOf has this WIDE (13 to 93) and this LONG (13, 23 .. 83). */
    static int[] sized(double wide, int tall, int count) {
        int eighths = wide >= 83.0 ? 8 : (int) ((wide - 3.0) / 10.0);
        int quarters = (int) ((wide - 3.0 - 10.0 * eighths) * 4.0);
        return new int[] {eighths, (tall - 3) / 10, quarters, count};
    }
}
