import java.util.ArrayList;
import java.util.List;

/** What a test has found out: every check that did not hold. */
final class Check {
    static final Class<? extends RuntimeException> INDEX = IndexOutOfBoundsException.class;
    static final Class<? extends RuntimeException> ARGUMENT = IllegalArgumentException.class;
    static final Class<? extends RuntimeException> STATE = IllegalStateException.class;

    private final List<String> faults = new ArrayList<>();

    /** A call whose answer (or exception) matters. */
    interface Call {
        Object run();
    }

    List<String> faults() {
        return faults;
    }

    void that(String what, boolean holds) {
        if (!holds) {
            faults.add(what);
        }
    }

    void same(String what, double got, double due) {
        that(what + " answered " + got + ", due is " + due, got == due);
    }

    void same(String what, long got, long due) {
        that(what + " answered " + got + ", due is " + due, got == due);
    }

    /** On one shop; each row is a call and, behind " = ", the answer that is due. */
    void runs(Story story, String... rows) {
        TailorBench x = story.shop();
        for (String row : rows) {
            int gap = row.indexOf(" = ");
            String call = row.substring(0, gap);
            String due = row.substring(gap + 3);
            String got = Story.answer(x, call);
            that(call + " answered " + got + ", due is " + due, got.equals(due));
        }
    }

    /**
     * Each of these calls, on a shop of its own, is answered so; and what every other call answers
     * is the same before and after it.
     */
    void undone(Story story, String due, String... calls) {
        for (String call : calls) {
            String got = Story.answer(story.shop(), call);
            that(call + " answered " + got + ", due is " + due, got.equals(due));
            List<String> before = story.seen();
            List<String> after = story.seenAfter(call);
            for (int i = 0; i < before.size() && !before.equals(after); i++) {
                that(call + " changed " + before.get(i) + " to " + after.get(i),
                        before.get(i).equals(after.get(i)));
            }
        }
    }

    /** Each of these calls, on a shop of its own, is taken. */
    void taken(Story story, String... calls) {
        for (String call : calls) {
            String got = Story.answer(story.shop(), call);
            that(call + " answered " + got, !got.endsWith("Exception"));
        }
    }

    /** The call throws just this, and the shop answers afterwards as it did before. */
    void refused(String what, TailorBench x, Class<? extends RuntimeException> due, Call call) {
        String before = Shops.seen(x);
        Object got;
        try {
            got = call.run();
        } catch (RuntimeException e) {
            got = e.getClass();
        }
        that(what + " answered " + got + ", due is " + due, due.equals(got));
        that(what + " changed something", before.equals(Shops.seen(x)));
    }
}
