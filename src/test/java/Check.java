import java.util.ArrayList;
import java.util.List;

/** What a test has found out: every check that did not hold. */
final class Check {
    static final Class<? extends RuntimeException> INDEX = IndexOutOfBoundsException.class;
    static final Class<? extends RuntimeException> ARGUMENT = IllegalArgumentException.class;
    static final Class<? extends RuntimeException> STATE = IllegalStateException.class;

    private final List<String> faults = new ArrayList<>();

    /** A call whose answer (or exception) matters. */
    interface Call {
        Object run();
    }

    List<String> faults() {
        return faults;
    }

    void that(String what, boolean holds) {
        if (!holds) {
            faults.add(what);
        }
    }

    void same(String what, double got, double due) {
        that(what + " answered " + got + ", due is " + due, got == due);
    }

    void same(String what, long got, long due) {
        that(what + " answered " + got + ", due is " + due, got == due);
    }

    /** The call throws just this, and the shop answers afterwards as it did before. */
    void refused(String what, TailorBench x, Class<? extends RuntimeException> due, Call call) {
        String before = Shops.seen(x);
        Object got;
        try {
            got = call.run();
        } catch (RuntimeException e) {
            got = e.getClass();
        }
        that(what + " answered " + got + ", due is " + due, due.equals(got));
        that(what + " changed something", before.equals(Shops.seen(x)));
    }
}
