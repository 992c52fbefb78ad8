/**
 * A tailor's shop.
 *
 * <p>Cloths are brought and washed, people measured, styles drawn piece by piece; orders are taken,
 * cut, sewn, fitted and given. The words in capitals (LAY, NEEDS, TIGHT ..) are those of the
 * document. An object is used for at most 512 calls.
 */
public final class TailorBench {
    private static final int NONE = -1;

    private static final int MOST_CLOTHS = 4;
    private static final int MOST_PEOPLE = 6;
    private static final int MOST_STYLES = 3;
    private static final int MOST_PIECES = 5;
    private static final int MOST_COUNT = 4;
    private static final int MOST_HANDS = 3;
    private static final int MOST_ORDERS = 8;
    /** Two ORDERS are the most that lie together. */
    private static final int MOST_LAID = 2 * MOST_PIECES * MOST_COUNT;
    private static final int LAST_HOUR = 2000;

    private static final int TOLD = 0;
    private static final int CUT = 1;
    private static final int SEWN = 2;
    private static final int FITTED = 3;
    private static final int GIVEN = 4;
    private static final int SPOILED = 5;

    private static final int IT_FITS = 0;
    private static final int LET_OUT = 1;
    private static final int TAKEN_IN = 2;
    private static final int TOO_TIGHT = 3;

    private static final int NO_LAY = -2;
    private static final int TOO_SHORT = -3;
    private static final int NOT_READY = -2;

    private final Cloth[] cloths = new Cloth[MOST_CLOTHS];
    private final Person[] people = new Person[MOST_PEOPLE];
    private final Style[] styles = new Style[MOST_STYLES];
    private final Hand[] hands = new Hand[MOST_HANDS];
    private final Order[] orders = new Order[MOST_ORDERS];
    private final Table table = new Table();
    private int clothCount;
    private int peopleCount;
    private int styleCount;
    private int handCount;
    private int orderCount;
    private double hour;
    private int purse;
    private int refused;
    private boolean isShut;

    /** Creates an empty shop. */
    public TailorBench() {
    }

    // ---- cloths, people, styles

    /** Brings a CLOTH; answers its number. */
    public int cloth(int width, int length, int shrink, int stripe, boolean isNap, int price)
            throws IllegalArgumentException, IllegalStateException {
        if (isOutside(width, 60, 160) || isOutside(length, 0, 3000) || isOutside(shrink, 0, 8)
                || isOutside(stripe, 0, 20) || isOutside(price, 1, 9)) {
            throw new IllegalArgumentException("no such cloth is made");
        }
        if (clothCount >= MOST_CLOTHS) {
            throw new IllegalStateException("there are 4 cloths");
        }
        cloths[clothCount] = new Cloth(width, length, shrink / 64.0f, stripe, isNap, price);
        clothCount++;
        return clothCount - 1;
    }

    /** WASHES a CLOTH; answers its LENGTH then. */
    public double wash(int cloth) throws IndexOutOfBoundsException {
        Cloth washed = clothAt(cloth);
        double left = washed.leftByWashing();
        washed.width = washed.width * left;
        washed.length = washed.length * left;
        washed.shrink = 0.0f;
        return washed.length;
    }

    /** Measures someone; answers the number of that one. */
    public int person(int chest, int waist, int hips, int height)
            throws IllegalArgumentException, IllegalStateException {
        if (isNoMeasure(chest) || isNoMeasure(waist) || isNoMeasure(hips) || isNoMeasure(height)) {
            throw new IllegalArgumentException("a measure is 50 to 200");
        }
        if (peopleCount >= MOST_PEOPLE) {
            throw new IllegalStateException("there are 6 people");
        }
        people[peopleCount] = new Person(peopleCount, chest, waist, hips, height);
        peopleCount++;
        return peopleCount - 1;
    }

    /** Measures again; answers the MEASURE before. */
    public int measure(int person, int measure, int much)
            throws IndexOutOfBoundsException, IllegalArgumentException {
        Person measured = personAt(person);
        if (isOutside(measure, 0, 3)) {
            throw new IndexOutOfBoundsException("no such measure");
        }
        if (isNoMeasure(much)) {
            throw new IllegalArgumentException("a measure is 50 to 200");
        }
        int before = measured.read(measure);
        measured.write(measure, much);
        return before;
    }

    /** Begins a STYLE without PIECES; answers its number. */
    public int style() throws IllegalStateException {
        if (styleCount >= MOST_STYLES) {
            throw new IllegalStateException("there are 3 styles");
        }
        styles[styleCount] = new Style(styleCount);
        styleCount++;
        return styleCount - 1;
    }

    /** Draws a PIECE, as the last one of a STYLE; answers how many the STYLE has then. */
    public int piece(int style, int across, int along, int ease, int count)
            throws IndexOutOfBoundsException, IllegalArgumentException, IllegalStateException {
        Style drawn = styleAt(style);
        if (isNoPart(across) || isNoPart(along) || isOutside(ease, 0, 40)
                || isOutside(count, 1, MOST_COUNT)) {
            throw new IllegalArgumentException("no such piece can be drawn");
        }
        if (drawn.pieceCount >= MOST_PIECES || drawn.isOrdered) {
            throw new IllegalStateException("the style takes no piece any more");
        }
        drawn.pieces[drawn.pieceCount] = new Piece(across, along, ease / 4.0, count);
        drawn.pieceCount++;
        drawn.partCount += count;
        return drawn.pieceCount;
    }

    /** Hires a HAND; answers its number. */
    public int hand(int pace) throws IllegalArgumentException, IllegalStateException {
        if (isOutside(pace, 1, 16)) {
            throw new IllegalArgumentException("a pace is 1 to 16");
        }
        if (handCount >= MOST_HANDS) {
            throw new IllegalStateException("there are 3 hands");
        }
        hands[handCount] = new Hand(pace / 8.0f);
        handCount++;
        return handCount - 1;
    }

    // ---- orders

    /** Takes an ORDER; answers its number. */
    public int order(int person, int style, int hours)
            throws IndexOutOfBoundsException, IllegalArgumentException, IllegalStateException {
        Person wearer = personAt(person);
        Style wanted = styleAt(style);
        if (isOutside(hours, 0, 400)) {
            throw new IllegalArgumentException("hours are 0 to 400");
        }
        if (orderCount >= MOST_ORDERS || wanted.pieceCount == 0) {
            throw new IllegalStateException("the order can't be taken");
        }
        orders[orderCount] = new Order(wearer, wanted, (int) hour + hours);
        orderCount++;
        wanted.isOrdered = true;
        return orderCount - 1;
    }

    /** CUTS one ORDER, or two together; answers the LENGTH of the CLOTH then. */
    public double cut(int order, int other, int cloth)
            throws IndexOutOfBoundsException, IllegalArgumentException, IllegalStateException {
        Order first = orderAt(order);
        Order second = otherAt(other);
        Cloth from = clothAt(cloth);
        if (order == other) {
            throw new IllegalArgumentException("both orders are the same");
        }
        if (isShut || first.state != TOLD || (second != null && second.state != TOLD)) {
            throw new IllegalStateException("this can't be cut");
        }
        if (!table.spread(first, second, from)) {
            return NO_LAY;
        }
        double needs = table.needs;
        if (from.length < needs) {
            return TOO_SHORT;
        }
        from.length = from.length - needs;
        if (second == null) {
            first.keepCut(cloth, costOf(from, needs));
        } else {
            int cost = costOf(from, needs / 2.0);
            first.keepCut(cloth, cost);
            second.keepCut(cloth, cost);
        }
        spend(0.25 * table.laid);
        return from.length;
    }

    /** SEWS an ORDER; answers its READY. */
    public double sew(int order, int hand)
            throws IndexOutOfBoundsException, IllegalStateException {
        Order sewn = orderAt(order);
        Hand sewer = handAt(hand);
        if (isShut || sewn.state != CUT) {
            throw new IllegalStateException("this can't be sewn");
        }
        sewer.free = endOfSewing(sewn, sewer);
        sewn.ready = sewer.free;
        sewn.hand = hand;
        sewn.state = SEWN;
        return sewn.ready;
    }

    /** FITS an ORDER; answers 0 it fits, 1 LET OUT, 2 TAKEN IN, 3 SPOILED, -2 not READY yet. */
    public int fit(int order) throws IndexOutOfBoundsException, IllegalStateException {
        Order fitted = orderAt(order);
        if (isShut || fitted.state != SEWN) {
            throw new IllegalStateException("this can't be fitted");
        }
        if (fitted.ready > hour) {
            return NOT_READY;
        }
        int told = fitted.judge();
        if (told == LET_OUT) {
            spend(1.0);
        } else if (told == TAKEN_IN) {
            spend(0.5);
        }
        fitted.fitting = told;
        fitted.state = told == TOO_TIGHT ? SPOILED : FITTED;
        return told;
    }

    /** GIVES an ORDER; answers by how much the PURSE is more. */
    public int give(int order) throws IndexOutOfBoundsException, IllegalStateException {
        Order given = orderAt(order);
        if (isShut || given.state != FITTED) {
            throw new IllegalStateException("this can't be given");
        }
        int late = hour > given.dueHour ? (int) ((hour - given.dueHour) / 8.0) : 0;
        int more = 20 + 5 * given.style.partCount - given.cost - 3 * late;
        purse += more;
        given.state = GIVEN;
        return more;
    }

    /** Lets time go by; answers the CLOCK then. */
    public double pass(int hours) throws IllegalArgumentException {
        if (isOutside(hours, 1, 100)) {
            throw new IllegalArgumentException("hours are 1 to 100");
        }
        spend(hours);
        return hour;
    }

    /** SHUTS the shop, or opens it; answers whether it was SHUT. */
    public boolean shut(boolean is) {
        boolean was = isShut;
        isShut = is;
        return was;
    }

    /** RINGS; answers how many were REFUSED ever, with this. */
    public int bell() {
        refused++;
        return refused;
    }

    // ---- what is asked

    /** Answers 0 WIDTH, 1 LENGTH, 2 SHRINK, 3 STRIPE, 4 whether it has NAP, 5 PRICE. */
    public double ofCloth(int cloth, int what)
            throws IndexOutOfBoundsException, IllegalArgumentException {
        Cloth asked = clothAt(cloth);
        switch (what) {
            case 0:
                return asked.width;
            case 1:
                return asked.length;
            case 2:
                return asked.shrink;
            case 3:
                return asked.stripe;
            case 4:
                return asked.isNap ? 1.0 : 0.0;
            case 5:
                return asked.price;
            default:
                throw new IllegalArgumentException("what is 0 to 5");
        }
    }

    /** Answers TALL of a PIECE for someone, or BODY. */
    public double size(int style, int piece, int person, boolean isAlong)
            throws IndexOutOfBoundsException {
        Style drawn = styleAt(style);
        if (piece < 0 || piece >= drawn.pieceCount) {
            throw new IndexOutOfBoundsException("no such piece");
        }
        Person wearer = personAt(person);
        Piece asked = drawn.pieces[piece];
        return isAlong ? asked.tallFor(wearer) : asked.bodyFor(wearer);
    }

    /**
     * Answers 0 for whom, 1 STYLE, 2 DUE HOUR, 3 STATE, 4 CLOTH, 5 how many PIECES (with COUNTS), 6
     * what FITTING told, 7 HAND.
     */
    public int ofOrder(int order, int what)
            throws IndexOutOfBoundsException, IllegalArgumentException {
        Order asked = orderAt(order);
        switch (what) {
            case 0:
                return asked.wearer.number;
            case 1:
                return asked.style.number;
            case 2:
                return asked.dueHour;
            case 3:
                return asked.state;
            case 4:
                return asked.cloth;
            case 5:
                return asked.style.partCount;
            case 6:
                return asked.fitting;
            case 7:
                return asked.hand;
            default:
                throw new IllegalArgumentException("what is 0 to 7");
        }
    }

    /** Answers the greatest TIGHT of the PIECES of an ORDER now, or the smallest. */
    public double tight(int order, boolean isMost) throws IndexOutOfBoundsException {
        return orderAt(order).tightness(isMost);
    }

    /** Answers READY of an ORDER; -1.0 ahead of SEWING. */
    public double ready(int order) throws IndexOutOfBoundsException {
        return orderAt(order).ready;
    }

    /** Answers FREE of a HAND. */
    public double free(int hand) throws IndexOutOfBoundsException {
        return handAt(hand).free;
    }

    /** Answers the CLOCK. */
    public double clock() {
        return hour;
    }

    /**
     * Answers 0 CLOTHS, 1 PEOPLE, 2 STYLES, 3 HANDS, 4 ORDERS, 5 to 10 those in the STATES 0 to 5, 11
     * PURSE, 12 whether the shop is SHUT, 13 how many were REFUSED.
     */
    public int many(int what) throws IllegalArgumentException {
        switch (what) {
            case 0:
                return clothCount;
            case 1:
                return peopleCount;
            case 2:
                return styleCount;
            case 3:
                return handCount;
            case 4:
                return orderCount;
            case 5:
            case 6:
            case 7:
            case 8:
            case 9:
            case 10:
                return countInState(what - 5);
            case 11:
                return purse;
            case 12:
                return isShut ? 1 : 0;
            case 13:
                return refused;
            default:
                throw new IllegalArgumentException("what is 0 to 13");
        }
    }

    // ---- what would be (nothing is changed)

    /** Answers of a LAY 0 NEEDS, 1 WASTE, 2 how many ROWS, 3 how many TURNED; -1.0 without one. */
    public double lay(int order, int other, int cloth, int what)
            throws IndexOutOfBoundsException, IllegalArgumentException {
        Order first = orderAt(order);
        Order second = otherAt(other);
        Cloth on = clothAt(cloth);
        if (order == other || isOutside(what, 0, 3)) {
            throw new IllegalArgumentException("no such lay is asked");
        }
        if (!table.spread(first, second, on)) {
            return -1.0;
        }
        switch (what) {
            case 0:
                return table.needs;
            case 1:
                return table.waste();
            case 2:
                return table.rowCount;
            default:
                return table.turnedCount;
        }
    }

    /** Answers the CLOTH that is long enough for an ORDER with the smallest PRICE * NEEDS. */
    public int best(int order) throws IndexOutOfBoundsException {
        Order asked = orderAt(order);
        int best = NONE;
        double least = 0.0;
        for (int i = 0; i < clothCount; i++) {
            Cloth on = cloths[i];
            if (table.spread(asked, null, on) && on.length >= table.needs) {
                double worth = on.price * table.needs;
                if (best == NONE || worth < least) {
                    best = i;
                    least = worth;
                }
            }
        }
        return best;
    }

    /** Answers the other TOLD ORDER with which a LAY saves most; NONE, if nothing is saved. */
    public int mate(int order, int cloth) throws IndexOutOfBoundsException {
        Order asked = orderAt(order);
        Cloth on = clothAt(cloth);
        int mate = NONE;
        double most = 0.0;
        for (int i = 0; i < orderCount; i++) {
            if (i != order && orders[i].state == TOLD) {
                double saved = savedBy(asked, orders[i], on);
                if (saved > most) {
                    mate = i;
                    most = saved;
                }
            }
        }
        return mate;
    }

    /** Answers the HAND by which an ORDER would be READY first, if it was SEWN now. */
    public int soonest(int order) throws IndexOutOfBoundsException {
        Order asked = orderAt(order);
        int soonest = NONE;
        double first = 0.0;
        for (int i = 0; i < handCount; i++) {
            double end = endOfSewing(asked, hands[i]);
            if (soonest == NONE || end < first) {
                soonest = i;
                first = end;
            }
        }
        return soonest;
    }

    /** Computes a checksum of all that can be asked. */
    public long digest() {
        long d = 58315L;
        for (int what = 0; what <= 13; what++) {
            d = mixed(d, many(what));
        }
        for (int i = 0; i < clothCount; i++) {
            for (int what = 0; what <= 2; what++) {
                d = mixed(d, in64ths(ofCloth(i, what)));
            }
        }
        for (int i = 0; i < orderCount; i++) {
            for (int what = 0; what <= 7; what++) {
                d = mixed(d, ofOrder(i, what));
            }
            d = mixed(d, in64ths(tight(i, true)));
            d = mixed(d, in64ths(tight(i, false)));
            d = mixed(d, in64ths(ready(i)));
            d = mixed(d, best(i));
            d = mixed(d, soonest(i));
            for (int k = 0; k < clothCount; k++) {
                d = mixed(d, in64ths(lay(i, NONE, k, 0)));
            }
        }
        for (int i = 0; i < handCount; i++) {
            d = mixed(d, in64ths(free(i)));
        }
        return mixed(d, in64ths(hour));
    }

    // ---- of the shop's own

    private Cloth clothAt(int number) {
        if (number < 0 || number >= clothCount) {
            throw new IndexOutOfBoundsException("no such cloth");
        }
        return cloths[number];
    }

    private Person personAt(int number) {
        if (number < 0 || number >= peopleCount) {
            throw new IndexOutOfBoundsException("no such one");
        }
        return people[number];
    }

    private Style styleAt(int number) {
        if (number < 0 || number >= styleCount) {
            throw new IndexOutOfBoundsException("no such style");
        }
        return styles[number];
    }

    private Hand handAt(int number) {
        if (number < 0 || number >= handCount) {
            throw new IndexOutOfBoundsException("no such hand");
        }
        return hands[number];
    }

    private Order orderAt(int number) {
        if (number < 0 || number >= orderCount) {
            throw new IndexOutOfBoundsException("no such order");
        }
        return orders[number];
    }

    /** The second one of a LAY; null for NONE. */
    private Order otherAt(int number) {
        return number == NONE ? null : orderAt(number);
    }

    private void spend(double hours) {
        hour = hour + hours;
        if (hour > LAST_HOUR) {
            hour = LAST_HOUR;
        }
    }

    private int countInState(int state) {
        int count = 0;
        for (int i = 0; i < orderCount; i++) {
            if (orders[i].state == state) {
                count++;
            }
        }
        return count;
    }

    private double endOfSewing(Order order, Hand hand) {
        double begin = hour >= hand.free ? hour : hand.free;
        return begin + order.style.partCount * 0.5 / (double) hand.pace;
    }

    /** What two ORDERS save together; 0.0 without a LAY of both. */
    private double savedBy(Order one, Order other, Cloth on) {
        if (!table.spread(one, other, on)) {
            return 0.0;
        }
        double both = table.needs;
        // Where both lie, each lies alone: whether a PIECE finds a place hangs on WIDTH alone.
        table.spread(one, null, on);
        double alone = table.needs;
        table.spread(other, null, on);
        return alone + table.needs - both;
    }

    private static int costOf(Cloth cloth, double needs) {
        return (int) nextWhole(cloth.price * needs / 100.0);
    }

    private static boolean isOutside(int value, int least, int most) {
        return value < least || value > most;
    }

    private static boolean isNoMeasure(int much) {
        return isOutside(much, 50, 200);
    }

    /** Whether this is no MEASURE (tens) with eighths (ones). */
    private static boolean isNoPart(int part) {
        return isOutside(part, 0, 38) || isOutside(part % 10, 1, 8);
    }

    /** As ceil does; what is asked here lies far inside a long. */
    private static double nextWhole(double value) {
        long below = (long) value;
        return below < value ? below + 1L : below;
    }

    private static long mixed(long d, long value) {
        return d * 31L + value;
    }

    private static long in64ths(double value) {
        return (long) (64.0 * value);
    }

    /** A CLOTH. */
    private static final class Cloth {
        private final int stripe;
        private final boolean isNap;
        private final int price;
        private double width;
        private double length;
        private float shrink;

        private Cloth(double width, double length, float shrink, int stripe, boolean isNap,
                int price) {
            this.width = width;
            this.length = length;
            this.shrink = shrink;
            this.stripe = stripe;
            this.isNap = isNap;
            this.price = price;
        }

        private double leftByWashing() {
            return 1.0 - (double) shrink;
        }
    }

    /** One of PEOPLE. */
    private static final class Person {
        private final int number;
        private int chest;
        private int waist;
        private int hips;
        private int height;

        private Person(int number, int chest, int waist, int hips, int height) {
            this.number = number;
            this.chest = chest;
            this.waist = waist;
            this.hips = hips;
            this.height = height;
        }

        private int read(int which) {
            switch (which) {
                case 0:
                    return chest;
                case 1:
                    return waist;
                case 2:
                    return hips;
                default:
                    return height;
            }
        }

        private void write(int which, int much) {
            switch (which) {
                case 0:
                    chest = much;
                    break;
                case 1:
                    waist = much;
                    break;
                case 2:
                    hips = much;
                    break;
                default:
                    height = much;
                    break;
            }
        }
    }

    /** A PIECE of a STYLE. */
    private static final class Piece {
        private final int across;
        private final int along;
        private final double ease;
        private final int count;

        private Piece(int across, int along, double ease, int count) {
            this.across = across;
            this.along = along;
            this.ease = ease;
            this.count = count;
        }

        private double bodyFor(Person person) {
            return partOf(person, across) + ease;
        }

        private double tallFor(Person person) {
            return partOf(person, along);
        }

        private static double partOf(Person person, int part) {
            return person.read(part / 10) * (part % 10) / 8.0;
        }
    }

    /** A STYLE. */
    private static final class Style {
        private final int number;
        private final Piece[] pieces = new Piece[MOST_PIECES];
        private int pieceCount;
        /** PIECES with COUNTS. */
        private int partCount;
        private boolean isOrdered;

        private Style(int number) {
            this.number = number;
        }
    }

    /** A HAND. */
    private static final class Hand {
        private final float pace;
        private double free;

        private Hand(float pace) {
            this.pace = pace;
        }
    }

    /** An ORDER. */
    private static final class Order {
        private final Person wearer;
        private final Style style;
        private final int dueHour;
        /** BODY of each PIECE as it was CUT. */
        private final double[] bodies = new double[MOST_PIECES];
        private int state = TOLD;
        private int cloth = NONE;
        private int cost;
        private int hand = NONE;
        private double ready = -1.0;
        private int fitting = NONE;

        private Order(Person wearer, Style style, int dueHour) {
            this.wearer = wearer;
            this.style = style;
            this.dueHour = dueHour;
        }

        private void keepCut(int cutFrom, int cutCost) {
            for (int i = 0; i < style.pieceCount; i++) {
                bodies[i] = style.pieces[i].bodyFor(wearer);
            }
            cloth = cutFrom;
            cost = cutCost;
            state = CUT;
        }

        private double tightness(boolean isMost) {
            double found = 0.0;
            if (state == TOLD) {
                return found;
            }
            for (int i = 0; i < style.pieceCount; i++) {
                double one = style.pieces[i].bodyFor(wearer) - bodies[i];
                if (i == 0 || (isMost ? one > found : one < found)) {
                    found = one;
                }
            }
            return found;
        }

        /** What FITTING would tell now. */
        private int judge() {
            double most = tightness(true);
            if (most > 3.0) {
                return TOO_TIGHT;
            }
            if (most > 0.5) {
                return LET_OUT;
            }
            return tightness(false) < -4.0 ? TAKEN_IN : IT_FITS;
        }
    }

    /** Where a LAY is tried; one for the whole shop, as a LAY is asked for very often. */
    private static final class Table {
        private final double[] longs = new double[MOST_LAID];
        private final double[] wides = new double[MOST_LAID];
        private final double[] heights = new double[MOST_LAID];
        private final double[] rooms = new double[MOST_LAID];
        private int laid;
        private int rowCount;
        private int turnedCount;
        private double needs;
        private double covered;
        private double width;
        private int stripe;

        /** Whether there is a LAY of these (second may be null); if so, it lies here afterwards. */
        private boolean spread(Order first, Order second, Cloth cloth) {
            laid = 0;
            rowCount = 0;
            turnedCount = 0;
            needs = 0.0;
            covered = 0.0;
            width = cloth.width;
            stripe = cloth.stripe;
            gather(first, cloth);
            if (second != null) {
                gather(second, cloth);
            }
            for (int i = 0; i < laid; i++) {
                if (!put(wides[i], longs[i], !cloth.isNap)) {
                    return false;
                }
                covered = covered + wides[i] * longs[i];
            }
            return true;
        }

        private double waste() {
            double area = needs * width;
            return area > 0.0 ? 1.0 - covered / area : 0.0;
        }

        private void gather(Order order, Cloth cloth) {
            double left = cloth.leftByWashing();
            for (int i = 0; i < order.style.pieceCount; i++) {
                Piece piece = order.style.pieces[i];
                double wide = (piece.bodyFor(order.wearer) + 3.0) / left;
                double tall = (piece.tallFor(order.wearer) + 3.0) / left;
                for (int k = 0; k < piece.count; k++) {
                    sortIn(wide, tall);
                }
            }
        }

        /** Behind its equals, as those were named before it. */
        private void sortIn(double wide, double tall) {
            if (laid >= MOST_LAID) {
                return;
            }
            int at = laid;
            while (at > 0 && isAhead(wide, tall, at - 1)) {
                wides[at] = wides[at - 1];
                longs[at] = longs[at - 1];
                at--;
            }
            wides[at] = wide;
            longs[at] = tall;
            laid++;
        }

        private boolean isAhead(double wide, double tall, int at) {
            return tall > longs[at] || (tall == longs[at] && wide > wides[at]);
        }

        private boolean put(double wide, double tall, boolean mayTurn) {
            if (putIntoRow(wide, tall)) {
                return true;
            }
            if (mayTurn && putIntoRow(tall, wide)) {
                turnedCount++;
                return true;
            }
            if (putIntoNewRow(wide, tall)) {
                return true;
            }
            if (mayTurn && putIntoNewRow(tall, wide)) {
                turnedCount++;
                return true;
            }
            return false;
        }

        private boolean putIntoRow(double room, double height) {
            for (int i = 0; i < rowCount; i++) {
                if (rooms[i] >= room && heights[i] >= height) {
                    rooms[i] = rooms[i] - room;
                    return true;
                }
            }
            return false;
        }

        private boolean putIntoNewRow(double room, double height) {
            if (room > width || rowCount >= MOST_LAID) {
                return false;
            }
            double raised = stripe > 0 ? nextWhole(height / stripe) * stripe : height;
            heights[rowCount] = raised;
            rooms[rowCount] = width - room;
            rowCount++;
            needs = needs + raised;
            return true;
        }
    }
}
