import java.util.ArrayList;
import java.util.Arrays;
import java.util.Comparator;
import java.util.List;

/**
 * The document written down a second time, with all of the Java library and no care for memory, to
 * hold the program against. Its methods bear the names and take the arguments of the face.
 */
final class Model {
    private final List<Fabric> fabrics = new ArrayList<>();
    private final List<int[]> bodies = new ArrayList<>();
    private final List<List<int[]>> drawings = new ArrayList<>();
    private final List<double[]> sewers = new ArrayList<>();
    private final List<Task> tasks = new ArrayList<>();
    private double now;
    private int money;
    private int rung;
    private boolean closed;

    private static final class Fabric {
        double wide;
        double rest;
        float shrink;
        int stripe;
        boolean nap;
        int price;
    }

    private static final class Task {
        int who;
        int style;
        int due;
        int state;
        int fabric = -1;
        int told = -1;
        int sewer = -1;
        double ready = -1.0;
        double paid;
        double[] was;
    }

    /** One part to lay: how wide and how long. */
    private record Part(double wide, double tall) {
    }

    private static final class Strip {
        double height;
        double room;
    }

    /** NEEDS, WASTE, ROWS, TURNED, and how many parts lie there. */
    private record Plan(double needs, double waste, int rows, int turned, int parts) {
    }

    private static void index(boolean... good) {
        for (boolean one : good) {
            if (!one) {
                throw new IndexOutOfBoundsException();
            }
        }
    }

    private static void argument(boolean good) {
        if (!good) {
            throw new IllegalArgumentException();
        }
    }

    private static void state(boolean good) {
        if (!good) {
            throw new IllegalStateException();
        }
    }

    private static boolean in(int value, int from, int to) {
        return from <= value && value <= to;
    }

    private static boolean has(List<?> list, int at) {
        return in(at, 0, list.size() - 1);
    }

    int cloth(int width, int length, int shrink, int stripe, boolean nap, int price) {
        argument(in(width, 60, 160) && in(length, 0, 3000) && in(shrink, 0, 8)
                && in(stripe, 0, 20) && in(price, 1, 9));
        state(fabrics.size() < 4);
        Fabric f = new Fabric();
        f.wide = width;
        f.rest = length;
        f.shrink = (float) shrink / 64;
        f.stripe = stripe;
        f.nap = nap;
        f.price = price;
        fabrics.add(f);
        return fabrics.size() - 1;
    }

    double wash(int cloth) {
        index(has(fabrics, cloth));
        Fabric f = fabrics.get(cloth);
        double shrink = f.shrink;
        f.wide *= 1.0 - shrink;
        f.rest *= 1.0 - shrink;
        f.shrink = 0f;
        return f.rest;
    }

    int person(int chest, int waist, int hips, int height) {
        int[] all = {chest, waist, hips, height};
        argument(Arrays.stream(all).allMatch(m -> in(m, 50, 200)));
        state(bodies.size() < 6);
        bodies.add(all);
        return bodies.size() - 1;
    }

    int measure(int person, int measure, int much) {
        index(has(bodies, person), in(measure, 0, 3));
        argument(in(much, 50, 200));
        int before = bodies.get(person)[measure];
        bodies.get(person)[measure] = much;
        return before;
    }

    int style() {
        state(drawings.size() < 3);
        drawings.add(new ArrayList<>());
        return drawings.size() - 1;
    }

    int piece(int style, int across, int along, int ease, int count) {
        index(has(drawings, style));
        for (int part : new int[] {across, along}) {
            argument(part >= 0 && in(part / 10, 0, 3) && in(part % 10, 1, 8));
        }
        argument(in(ease, 0, 40) && in(count, 1, 4));
        state(drawings.get(style).size() < 5 && tasks.stream().noneMatch(t -> t.style == style));
        drawings.get(style).add(new int[] {across, along, ease, count});
        return drawings.get(style).size();
    }

    int hand(int pace) {
        argument(in(pace, 1, 16));
        state(sewers.size() < 3);
        sewers.add(new double[] {(float) pace / 8, 0.0});
        return sewers.size() - 1;
    }

    int order(int person, int style, int hours) {
        index(has(bodies, person), has(drawings, style));
        argument(in(hours, 0, 400));
        state(tasks.size() < 8 && !drawings.get(style).isEmpty());
        Task t = new Task();
        t.who = person;
        t.style = style;
        t.due = (int) now + hours;
        tasks.add(t);
        return tasks.size() - 1;
    }

    double cut(int order, int other, int cloth) {
        index(has(tasks, order), other == -1 || has(tasks, other), has(fabrics, cloth));
        argument(order != other);
        List<Task> both = some(order, other);
        state(!closed && both.stream().allMatch(t -> t.state == 0));
        Fabric f = fabrics.get(cloth);
        Plan plan = plan(both, f);
        if (plan == null) {
            return -2.0;
        }
        if (f.rest < plan.needs) {
            return -3.0;
        }
        f.rest -= plan.needs;
        for (Task t : both) {
            t.state = 1;
            t.fabric = cloth;
            t.paid = f.price * (plan.needs / both.size());
            t.was = new double[drawings.get(t.style).size()];
            for (int i = 0; i < t.was.length; i++) {
                t.was[i] = size(t.style, i, t.who, false);
            }
        }
        later(0.25 * plan.parts);
        return f.rest;
    }

    double sew(int order, int hand) {
        index(has(tasks, order), has(sewers, hand));
        Task t = tasks.get(order);
        state(!closed && t.state == 1);
        t.ready = end(t, hand);
        t.sewer = hand;
        t.state = 2;
        sewers.get(hand)[1] = t.ready;
        return t.ready;
    }

    int fit(int order) {
        index(has(tasks, order));
        Task t = tasks.get(order);
        state(!closed && t.state == 2);
        if (now < t.ready) {
            return -2;
        }
        double most = tight(order, true);
        t.told = most > 3.0 ? 3 : most > 0.5 ? 1 : tight(order, false) < -4.0 ? 2 : 0;
        later(t.told == 1 ? 1.0 : t.told == 2 ? 0.5 : 0.0);
        t.state = t.told == 3 ? 5 : 3;
        return t.told;
    }

    int give(int order) {
        index(has(tasks, order));
        Task t = tasks.get(order);
        state(!closed && t.state == 3);
        t.state = 4;
        double eights = Math.floor((now - t.due) / 8.0);
        int more = 20 + 5 * parts(t) - (int) Math.ceil(t.paid / 100.0)
                - 3 * (int) Math.max(0.0, eights);
        money += more;
        return more;
    }

    double pass(int hours) {
        argument(in(hours, 1, 100));
        later(hours);
        return now;
    }

    boolean shut(boolean is) {
        boolean was = closed;
        closed = is;
        return was;
    }

    int bell() {
        return ++rung;
    }

    double ofCloth(int cloth, int what) {
        index(has(fabrics, cloth));
        argument(in(what, 0, 5));
        Fabric f = fabrics.get(cloth);
        return new double[] {f.wide, f.rest, f.shrink, f.stripe, f.nap ? 1 : 0, f.price}[what];
    }

    double size(int style, int piece, int person, boolean along) {
        index(has(drawings, style));
        index(has(drawings.get(style), piece), has(bodies, person));
        int[] drawn = drawings.get(style).get(piece);
        int part = along ? drawn[1] : drawn[0];
        double reckoned = bodies.get(person)[part / 10] * (part % 10) / 8.0;
        return along ? reckoned : reckoned + drawn[2] / 4.0;
    }

    int ofOrder(int order, int what) {
        index(has(tasks, order));
        argument(in(what, 0, 7));
        Task t = tasks.get(order);
        return new int[] {t.who, t.style, t.due, t.state, t.fabric, parts(t), t.told,
            t.sewer}[what];
    }

    double tight(int order, boolean most) {
        index(has(tasks, order));
        Task t = tasks.get(order);
        if (t.state == 0) {
            return 0.0;
        }
        double[] all = new double[t.was.length];
        for (int i = 0; i < all.length; i++) {
            all[i] = size(t.style, i, t.who, false) - t.was[i];
        }
        Arrays.sort(all);
        return most ? all[all.length - 1] : all[0];
    }

    double ready(int order) {
        index(has(tasks, order));
        return tasks.get(order).ready;
    }

    double free(int hand) {
        index(has(sewers, hand));
        return sewers.get(hand)[1];
    }

    double clock() {
        return now;
    }

    int many(int what) {
        argument(in(what, 0, 13));
        if (in(what, 5, 10)) {
            return (int) tasks.stream().filter(t -> t.state == what - 5).count();
        }
        return new int[] {fabrics.size(), bodies.size(), drawings.size(), sewers.size(),
            tasks.size(), 0, 0, 0, 0, 0, 0, money, closed ? 1 : 0, rung}[what];
    }

    double lay(int order, int other, int cloth, int what) {
        index(has(tasks, order), other == -1 || has(tasks, other), has(fabrics, cloth));
        argument(order != other && in(what, 0, 3));
        Plan plan = plan(some(order, other), fabrics.get(cloth));
        return plan == null ? -1.0
                : new double[] {plan.needs, plan.waste, plan.rows, plan.turned}[what];
    }

    int best(int order) {
        index(has(tasks, order));
        int found = -1;
        double least = Double.POSITIVE_INFINITY;
        for (int i = 0; i < fabrics.size(); i++) {
            Fabric f = fabrics.get(i);
            Plan plan = plan(some(order, -1), f);
            if (plan != null && plan.needs <= f.rest && f.price * plan.needs < least) {
                found = i;
                least = f.price * plan.needs;
            }
        }
        return found;
    }

    int mate(int order, int cloth) {
        index(has(tasks, order), has(fabrics, cloth));
        int found = -1;
        double most = 0.0;
        for (int i = 0; i < tasks.size(); i++) {
            Plan both = i == order ? null : plan(some(order, i), fabrics.get(cloth));
            if (both != null && tasks.get(i).state == 0) {
                double saved = plan(some(order, -1), fabrics.get(cloth)).needs
                        + plan(some(i, -1), fabrics.get(cloth)).needs - both.needs;
                if (saved > most) {
                    found = i;
                    most = saved;
                }
            }
        }
        return found;
    }

    int soonest(int order) {
        index(has(tasks, order));
        int found = -1;
        for (int i = sewers.size() - 1; i >= 0; i--) {
            if (found < 0 || end(tasks.get(order), i) <= end(tasks.get(order), found)) {
                found = i;
            }
        }
        return found;
    }

    long digest() {
        List<Long> all = new ArrayList<>();
        for (int what = 0; what < 14; what++) {
            all.add((long) many(what));
        }
        for (int i = 0; i < fabrics.size(); i++) {
            for (int what = 0; what < 3; what++) {
                all.add((long) (64 * ofCloth(i, what)));
            }
        }
        for (int i = 0; i < tasks.size(); i++) {
            for (int what = 0; what < 8; what++) {
                all.add((long) ofOrder(i, what));
            }
            all.add((long) (64 * tight(i, true)));
            all.add((long) (64 * tight(i, false)));
            all.add((long) (64 * ready(i)));
            all.add((long) best(i));
            all.add((long) soonest(i));
            for (int k = 0; k < fabrics.size(); k++) {
                all.add((long) (64 * lay(i, -1, k, 0)));
            }
        }
        for (int i = 0; i < sewers.size(); i++) {
            all.add((long) (64 * free(i)));
        }
        all.add((long) (64 * now));
        long d = 58315;
        for (long v : all) {
            d = d * 31 + v;
        }
        return d;
    }

    private List<Task> some(int order, int other) {
        List<Task> found = new ArrayList<>();
        found.add(tasks.get(order));
        if (other >= 0) {
            found.add(tasks.get(other));
        }
        return found;
    }

    private void later(double hours) {
        now = Math.min(2000.0, now + hours);
    }

    private int parts(Task t) {
        return drawings.get(t.style).stream().mapToInt(p -> p[3]).sum();
    }

    private double end(Task t, int hand) {
        return Math.max(now, sewers.get(hand)[1]) + parts(t) * 0.5 / sewers.get(hand)[0];
    }

    private Plan plan(List<Task> which, Fabric f) {
        double left = 1.0 - f.shrink;
        List<Part> parts = new ArrayList<>();
        for (Task t : which) {
            for (int i = 0; i < drawings.get(t.style).size(); i++) {
                Part part = new Part((size(t.style, i, t.who, false) + 3.0) / left,
                        (size(t.style, i, t.who, true) + 3.0) / left);
                for (int k = 0; k < drawings.get(t.style).get(i)[3]; k++) {
                    parts.add(part);
                }
            }
        }
        parts.sort(Comparator.comparingDouble(Part::tall).thenComparingDouble(Part::wide)
                .reversed());
        List<Strip> strips = new ArrayList<>();
        int turned = 0;
        double covered = 0.0;
        for (Part part : parts) {
            covered += part.wide * part.tall;
            Strip strip = first(strips, part.wide, part.tall);
            boolean isTurned = false;
            if (strip == null && !f.nap) {
                strip = first(strips, part.tall, part.wide);
                isTurned = strip != null;
            }
            if (strip == null) {
                isTurned = part.wide > f.wide;
                if (isTurned && (f.nap || part.tall > f.wide)) {
                    return null;
                }
                strip = new Strip();
                strip.room = f.wide;
                strip.height = isTurned ? part.wide : part.tall;
                if (f.stripe > 0) {
                    strip.height = Math.ceil(strip.height / f.stripe) * f.stripe;
                }
                strips.add(strip);
            }
            strip.room -= isTurned ? part.tall : part.wide;
            turned += isTurned ? 1 : 0;
        }
        double needs = 0.0;
        for (Strip strip : strips) {
            needs += strip.height;
        }
        return new Plan(needs, 1.0 - covered / (needs * f.wide), strips.size(), turned,
                parts.size());
    }

    private static Strip first(List<Strip> strips, double room, double height) {
        return strips.stream().filter(s -> s.room >= room && s.height >= height).findFirst()
                .orElse(null);
    }
}
